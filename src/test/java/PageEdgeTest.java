/** The sentences of 'Terms' on pages of cells, each at its edges: slots, what cells take, room, end, compacting. */
final class PageEdgeTest {
    private static final int NONE = SlotFile.NONE;
    private final Checks checks = new Checks("PageEdgeTest");

    public static void main(String[] args) {
        PageEdgeTest test = new PageEdgeTest();
        test.fourBytesForEachSlotUpToTheLast();
        test.asManySlotsAsThereCanBe();
        test.shortUpToHundred();
        test.shortAway();
        test.longFromHundredAndOne();
        test.longAway();
        test.stubTakesFive();
        test.noCellTakesLessThanFive();
        test.chainPagesOf240();
        test.endNeverGoesBack();
        test.changedCellStaysOrGoesToTheEnd();
        test.compactedForANewSlot();
        test.compactedForAnEmptySlot();
        test.compactedForAChange();
        test.compactedForTheCellAtTheEnd();
        test.compactedForACellAway();
        test.compactedForAChangeAway();
        test.compactedForComingHome();
        test.stubNeverCompacts();
        test.slotsVanish();
        test.slotsVanishWhereItWasAway();
        test.pageWithoutCellsIsFree();
        test.pageWithOneCellIsNot();
        test.checks.finish();
    }

    private void told(Run run, int page, String due) {
        checks.same("page " + page, run.told(page), due);
    }

    private void fourBytesForEachSlotUpToTheLast() {
        checks.part("'four each from slot 0 up to the last one that has a cell'");
        Run run = new Run().inserts(3, 0);
        told(run, 0, "slots 3, cells 3, room 221, end 15, stubs 0");
        run.delete(0);
        told(run, 0, "slots 3, cells 2, room 226, end 15, stubs 0");
        run.delete(1);
        told(run, 0, "slots 3, cells 1, room 231, end 15, stubs 0");
        checks.is("slot 0", run.slot(0, 0), 0);
        checks.is("slot 1", run.slot(0, 1), 0);
        checks.is("slot 2", run.slot(0, 2), 1);
        checks.is("slot 3", run.slot(0, 3), NONE);
    }

    private void asManySlotsAsThereCanBe() {
        checks.part("'No page with 32 slots that all have cells counts': a page has no bytes for more than 27");
        Run run = new Run().inserts(27, 4);
        told(run, 0, "slots 27, cells 27, room 5, end 135, stubs 0");
        checks.is("the last slot", run.slot(0, 26), 1);
        checks.is("behind it", run.slot(0, 27), NONE);
        checks.is("slot 31", run.slot(0, 31), NONE);
        checks.is("one more", run.insert(0, 0), 32);

        Run just = new Run().inserts(26, 0);
        checks.is("a last cell of 10 uses up the page", just.insert(9, 0), 26);
        told(just, 0, "slots 27, cells 27, room 0, end 140, stubs 0");
        checks.is("a last cell of 11 has no room there", new Run().inserts(26, 0).insert(10, 0), 32);
    }

    private void shortUpToHundred() {
        checks.part("'a value of up to 100 bytes (SHORT) its length and 1'");
        Run run = new Run();
        run.insert(99, 0);
        told(run, 0, "slots 1, cells 1, room 144, end 100, stubs 0");
        run.update(0, 100, 0);
        told(run, 0, "slots 1, cells 1, room 143, end 201, stubs 0");
        checks.same("no chain", run.place(0), "0.0");
        checks.is("pages of chains", run.total(3), 0);
    }

    /** Records 0 (5 bytes), 1 and 2 (101 each): room is 29, end 207, and 0 may take 34. */
    private static Run withRoom29() {
        return new Run().inserts(1, 0).inserts(2, 100);
    }

    private void shortAway() {
        checks.part("'and 4 more if it is AWAY'");
        Run run = withRoom29();
        run.update(0, 34, 0);
        told(run, 1, "slots 1, cells 1, room 205, end 39, stubs 0");
        run.update(0, 100, 0);
        told(run, 1, "slots 1, cells 1, room 139, end 144, stubs 0");
    }

    private void longFromHundredAndOne() {
        checks.part("'a longer one (LONG) 9'");
        Run run = new Run();
        checks.is("record", run.insert(101, 0), 32);
        told(run, 1, "slots 1, cells 1, room 235, end 9, stubs 0");
        run.update(32, 1200, 0);
        told(run, 1, "slots 1, cells 1, room 235, end 9, stubs 0");
        run.update(32, 8, 0);
        told(run, 1, "slots 1, cells 1, room 235, end 9, stubs 0");
        run.update(32, 9, 0);
        told(run, 1, "slots 1, cells 1, room 234, end 19, stubs 0");
    }

    private void longAway() {
        checks.part("'9, and 4 more if it is away'");
        Run home = withRoom29().inserts(1, 20);
        told(home, 0, "slots 4, cells 4, room 4, end 228, stubs 0");
        checks.is("9 bytes for 5 with room 4", home.update(0, 101, 0), true);
        checks.same("stays", home.place(0), "0.0 chain of 1 from 1");
        Run away = withRoom29().inserts(1, 21);
        told(away, 0, "slots 4, cells 4, room 3, end 229, stubs 0");
        checks.is("9 bytes for 5 with room 3", away.update(0, 101, 0), true);
        checks.same("goes away", away.place(0), "2.0 chain of 1 from 1");
        told(away, 2, "slots 1, cells 1, room 231, end 13, stubs 0");
    }

    private void stubTakesFive() {
        checks.part("'a STUB 5'");
        Run run = new Run().inserts(1, 50).inserts(1, 100).inserts(1, 60);
        told(run, 0, "slots 3, cells 3, room 23, end 213, stubs 0");
        run.update(0, 74, 0);
        told(run, 0, "slots 3, cells 3, room 69, end 213, stubs 1");
        checks.is("its slot", run.slot(0, 0), 2);
        Run five = withRoom29();
        five.update(0, 34, 0);
        told(five, 0, "slots 3, cells 3, room 29, end 207, stubs 1");
    }

    private void noCellTakesLessThanFive() {
        checks.part("'No cell takes less than 5'");
        for (int length = 0; length <= 5; length++) {
            Run run = new Run();
            run.insert(length, 0);
            int takes = length == 5 ? 6 : 5;
            told(run, 0, "slots 1, cells 1, room " + (244 - takes) + ", end " + takes + ", stubs 0");
        }
        Run run = new Run().inserts(1, 100);
        run.update(0, 0, 0);
        told(run, 0, "slots 1, cells 1, room 239, end 101, stubs 0");
        run.update(0, 4, 0);
        told(run, 0, "slots 1, cells 1, room 239, end 101, stubs 0");
        run.update(0, 5, 0);
        told(run, 0, "slots 1, cells 1, room 238, end 107, stubs 0");
    }

    private void chainPagesOf240() {
        checks.part("'CHAIN pages, each of 240 bytes of it, the last one with what is left'");
        for (int count = 1; count <= 5; count++) {
            Run full = new Run();
            full.insert(240 * count, 0);
            checks.is("pages of chains", full.total(3), count);
            told(full, count - 1, "chain, next -1, bytes 240");
            told(full, count, "slots 1, cells 1, room 235, end 9, stubs 0");
        }
        for (int count = 1; count <= 4; count++) {
            Run more = new Run();
            more.insert(240 * count + 1, 0);
            checks.is("pages of chains", more.total(3), count + 1);
            told(more, count - 1, "chain, next " + count + ", bytes 240");
            told(more, count, "chain, next -1, bytes 1");
        }
        Run least = new Run();
        least.insert(101, 0);
        told(least, 0, "chain, next -1, bytes 101");
    }

    private void endNeverGoesBack() {
        checks.part("'where it was before stays unused'");
        Run run = new Run().inserts(2, 10);
        told(run, 0, "slots 2, cells 2, room 218, end 22, stubs 0");
        run.delete(1);
        told(run, 0, "slots 1, cells 1, room 233, end 22, stubs 0");
        run.insert(0, 0);
        told(run, 0, "slots 2, cells 2, room 224, end 27, stubs 0");
    }

    private void changedCellStaysOrGoesToTheEnd() {
        checks.part("'A cell that is changed and takes no more than before stays where it is; else ... at the end'");
        Run run = new Run().inserts(2, 10);
        run.update(0, 10, 9);
        told(run, 0, "slots 2, cells 2, room 218, end 22, stubs 0");
        run.update(0, 9, 9);
        told(run, 0, "slots 2, cells 2, room 219, end 22, stubs 0");
        run.update(0, 10, 9);
        told(run, 0, "slots 2, cells 2, room 218, end 33, stubs 0");
        run.update(1, 11, 9);
        told(run, 0, "slots 2, cells 2, room 217, end 45, stubs 0");
        checks.is("compacted", run.total(6), 0);
        checks.same("its slot stays", run.place(1), "0.1");
    }

    /** Cells of 101, 100 and 5: end is 226, 10 bytes are left between it and the slots, room is 30. */
    private static Run with10Left() {
        Run run = new Run().inserts(1, 100).inserts(1, 99).inserts(1, 24);
        run.update(2, 0, 0);
        return run;
    }

    private void compactedForANewSlot() {
        checks.part("'its bytes, and four more if it has a slot behind the last one'");
        Run fits = with10Left();
        told(fits, 0, "slots 3, cells 3, room 30, end 226, stubs 0");
        checks.is("6 bytes and 4", fits.insert(5, 0), 3);
        told(fits, 0, "slots 4, cells 4, room 20, end 232, stubs 0");
        checks.is("not compacted", fits.total(6), 0);
        Run over = with10Left();
        checks.is("7 bytes and 4", over.insert(6, 0), 3);
        told(over, 0, "slots 4, cells 4, room 19, end 213, stubs 0");
        checks.is("compacted", over.total(6), 1);
        checks.is("room used up by a change", over.update(2, 23, 0), true);
        told(over, 0, "slots 4, cells 4, room 0, end 232, stubs 0");
        checks.is("compacted again", over.total(6), 2);
    }

    private void compactedForAnEmptySlot() {
        checks.part("'its bytes' alone, if its slot is not behind the last one");
        Run fits = withRoom29();
        fits.delete(0);
        told(fits, 0, "slots 3, cells 2, room 34, end 207, stubs 0");
        checks.is("29 bytes", fits.insert(28, 0), 0);
        told(fits, 0, "slots 3, cells 3, room 5, end 236, stubs 0");
        checks.is("not compacted", fits.total(6), 0);
        Run over = withRoom29();
        over.delete(0);
        checks.is("30 bytes", over.insert(29, 0), 0);
        told(over, 0, "slots 3, cells 3, room 4, end 232, stubs 0");
        checks.is("compacted", over.total(6), 1);
    }

    private void compactedForAChange() {
        checks.part("'the end is what cells take (without the one that was taken out)'");
        Run fits = withRoom29();
        fits.update(0, 28, 0);
        told(fits, 0, "slots 3, cells 3, room 5, end 236, stubs 0");
        checks.is("not compacted", fits.total(6), 0);
        Run over = withRoom29();
        over.update(0, 29, 0);
        told(over, 0, "slots 3, cells 3, room 4, end 232, stubs 0");
        checks.is("compacted", over.total(6), 1);
    }

    private void compactedForTheCellAtTheEnd() {
        checks.part("'else it is taken out and put at the end', if it was the last one there too");
        Run run = new Run().inserts(2, 100).inserts(1, 20);
        told(run, 0, "slots 3, cells 3, room 13, end 223, stubs 0");
        checks.is("all that there is", run.update(2, 33, 0), true);
        told(run, 0, "slots 3, cells 3, room 0, end 236, stubs 0");
        checks.is("compacted", run.total(6), 1);
        checks.is("no more", run.update(2, 34, 0), true);
        checks.same("away", run.place(2), "1.0");
    }

    /** Page 0 without room, its record 0 with 5 bytes; page 1 with room 30 and 14 bytes between end and slots. */
    private static Run with14LeftInPage1() {
        Run run = withRoom29().inserts(1, 24).inserts(1, 100).inserts(1, 99).inserts(1, 20);
        run.update(34, 0, 0);
        return run;
    }

    private void compactedForACellAway() {
        checks.part("compacted for a cell that is put away");
        Run fits = with14LeftInPage1();
        told(fits, 0, "slots 4, cells 4, room 0, end 232, stubs 0");
        told(fits, 1, "slots 3, cells 3, room 30, end 222, stubs 0");
        checks.is("10 bytes and 4", fits.update(0, 5, 0), true);
        told(fits, 1, "slots 4, cells 4, room 16, end 232, stubs 0");
        checks.is("not compacted", fits.total(6), 0);
        Run over = with14LeftInPage1();
        checks.is("11 bytes and 4", over.update(0, 6, 0), true);
        told(over, 1, "slots 4, cells 4, room 15, end 217, stubs 0");
        checks.is("compacted", over.total(6), 1);
        checks.same("away", over.place(0), "1.3");
        told(over, 0, "slots 4, cells 4, room 0, end 232, stubs 1");
    }

    private void compactedForAChangeAway() {
        checks.part("compacted where a cell is away");
        Run run = withRoom29();
        run.update(0, 40, 0);
        run.inserts(1, 100).inserts(1, 85);
        told(run, 1, "slots 3, cells 3, room 4, end 232, stubs 0");
        run.update(0, 40, 1);
        told(run, 1, "slots 3, cells 3, room 4, end 232, stubs 0");
        run.update(0, 41, 1);
        told(run, 1, "slots 3, cells 3, room 3, end 233, stubs 0");
        checks.is("compacted", run.total(6), 1);
        run.update(0, 44, 1);
        told(run, 1, "slots 3, cells 3, room 0, end 236, stubs 0");
        checks.is("compacted again", run.total(6), 2);
        checks.same("still there", run.place(0), "1.0");
    }

    private void compactedForComingHome() {
        checks.part("compacted for a cell that comes home");
        int[] lengths = {4, 5, 28, 29, 33};
        int[] rooms = {29, 28, 5, 4, 0};
        int[] ends = {207, 213, 236, 232, 236};
        int[] compacted = {0, 0, 0, 1, 1};
        for (int i = 0; i < lengths.length; i++) {
            Run run = withRoom29();
            run.update(0, 34, 0);
            checks.same("away", run.place(0), "1.0");
            run.update(0, lengths[i], 0);
            checks.same("home with " + lengths[i], run.place(0), "0.0");
            told(run, 0, "slots 3, cells 3, room " + rooms[i] + ", end " + ends[i] + ", stubs 0");
            told(run, 1, "free");
            checks.is("compacted for " + lengths[i], run.total(6), compacted[i]);
        }
    }

    private void stubNeverCompacts() {
        checks.part("a stub takes no more than the cell before, and stays where that was");
        Run run = new Run().inserts(2, 100).inserts(1, 33);
        told(run, 0, "slots 3, cells 3, room 0, end 236, stubs 0");
        run.update(2, 34, 0);
        told(run, 0, "slots 3, cells 3, room 29, end 236, stubs 1");
        run.inserts(1, 100).inserts(1, 86);
        told(run, 1, "slots 3, cells 3, room 9, end 227, stubs 0");
        run.update(2, 43, 0);
        checks.same("all that there is", run.place(2), "1.0");
        run.update(2, 44, 0);
        checks.same("further away", run.place(2), "2.0");
        told(run, 0, "slots 3, cells 3, room 29, end 236, stubs 1");
        checks.is("only page 1 was compacted", run.total(6), 1);
    }

    private void slotsVanish() {
        checks.part("'Slots vanish with the last cell behind which there is none'");
        Run run = new Run().inserts(5, 0);
        run.delete(2);
        run.delete(3);
        told(run, 0, "slots 5, cells 3, room 213, end 25, stubs 0");
        run.delete(4);
        told(run, 0, "slots 2, cells 2, room 230, end 25, stubs 0");
        checks.is("slot 1", run.slot(0, 1), 1);
        checks.is("slot 2", run.slot(0, 2), NONE);
        checks.is("the least again", run.insert(0, 0), 2);
        run.delete(0);
        run.delete(1);
        told(run, 0, "slots 3, cells 1, room 231, end 30, stubs 0");
        run.delete(2);
        told(run, 0, "free");
    }

    private void slotsVanishWhereItWasAway() {
        checks.part("slots vanish where a cell was away");
        Run run = withRoom29();
        checks.is("page 1", run.insert(50, 0), 32);
        run.update(0, 40, 0);
        told(run, 1, "slots 2, cells 2, room 144, end 96, stubs 0");
        run.update(0, 0, 0);
        told(run, 1, "slots 1, cells 1, room 193, end 96, stubs 0");
        checks.is("slot 1", run.slot(1, 1), NONE);
        run.update(0, 40, 0);
        run.delete(32);
        told(run, 1, "slots 2, cells 1, room 195, end 141, stubs 0");
        checks.is("slot 0", run.slot(1, 0), 0);
        checks.is("slot 1", run.slot(1, 1), 3);
        run.delete(0);
        told(run, 1, "free");
        told(run, 0, "slots 3, cells 2, room 34, end 207, stubs 0");
    }

    private void pageWithoutCellsIsFree() {
        checks.part("'a page without cells is FREE'");
        Run run = new Run().inserts(1, 100);
        run.delete(0);
        for (int what = 0; what <= 8; what++) {
            checks.is("page(0, " + what + ")", run.page(0, what), what == 0 ? 0 : NONE);
        }
        checks.is("its slots", run.slot(0, 0), NONE);
        checks.is("free pages", run.total(1), 96);
        checks.is("the page again", run.insert(1, 0), 0);
        told(run, 0, "slots 1, cells 1, room 239, end 5, stubs 0");

        Run away = withRoom29();
        away.update(0, 40, 0);
        away.inserts(1, 100).inserts(1, 85);
        away.delete(33);
        away.delete(34);
        away.insert(100, 0);
        away.insert(85, 0);
        away.update(0, 60, 0);
        checks.same("further away", away.place(0), "2.0");
        away.delete(33);
        away.delete(34);
        told(away, 1, "free");
        checks.is("a chain takes it", away.insert(101, 0), 65);
        checks.same("chain", away.place(65), "2.1 chain of 1 from 1");
    }

    private void pageWithOneCellIsNot() {
        checks.part("a page with a stub, or with a cell that is away, alone is not free");
        Run run = withRoom29();
        run.update(0, 40, 0);
        run.delete(1);
        run.delete(2);
        told(run, 0, "slots 1, cells 1, room 239, end 207, stubs 1");
        told(run, 1, "slots 1, cells 1, room 199, end 45, stubs 0");
        checks.is("pages of cells", run.total(2), 2);
        checks.is("a chain takes the next one", run.insert(101, 0), 33);
        checks.is("first of the chain", run.where(33, 3), 2);
        checks.is("delete", run.delete(0), 40);
        told(run, 0, "free");
        told(run, 1, "slots 2, cells 1, room 231, end 54, stubs 0");
    }
}
