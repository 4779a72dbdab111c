/** Promises 3 and 4: updating and deleting. */
final class UpdateTest {
    private static final int NONE = SlotFile.NONE;
    private final Checks checks = new Checks("UpdateTest");

    public static void main(String[] args) {
        UpdateTest test = new UpdateTest();
        test.inPlace();
        test.toTheEnd();
        test.homeByTheLastByte();
        test.awayAndHome();
        test.awayFurther();
        test.awayInPlace();
        test.awayToALesserPage();
        test.placesAway();
        test.awayRefused();
        test.pagesToBeFreed();
        test.chains();
        test.longAway();
        test.refusals();
        test.wrongUpdates();
        test.deleting();
        test.deletingAway();
        test.wrongDeletes();
        test.checks.finish();
    }

    private void page(Run file, int page, int slots, int cells, int room, int end, int stubs) {
        checks.is("kind of page " + page, file.page(page, 0), 1);
        checks.is("slots of page " + page, file.page(page, 1), slots);
        checks.is("cells of page " + page, file.page(page, 2), cells);
        checks.is("room of page " + page, file.page(page, 3), room);
        checks.is("end of page " + page, file.page(page, 4), end);
        checks.is("class of page " + page, file.page(page, 5), room / 31);
        checks.is("stubs of page " + page, file.page(page, 6), stubs);
    }

    private void where(Run file, int record, int page, int slot) {
        checks.is("page of " + record, file.where(record, 0), page);
        checks.is("slot of " + record, file.where(record, 1), slot);
    }

    private void inPlace() {
        checks.part("promise 3, in place");
        Run file = new Run();
        file.insert(50, 1);
        file.insert(20, 2);
        page(file, 0, 2, 2, 168, 72, 0);
        checks.is("as long as before", file.update(0, 50, 3), true);
        page(file, 0, 2, 2, 168, 72, 0);
        checks.is("seed", file.byteAt(0, 0), 3);
        checks.is("shorter", file.update(0, 10, 4), true);
        page(file, 0, 2, 2, 208, 72, 0);
        checks.is("length", file.length(0), 10);
        checks.is("shorter than the least cell", file.update(0, 0, 4), true);
        page(file, 0, 2, 2, 214, 72, 0);
        checks.is("longer, but the least cell still", file.update(0, 4, 4), true);
        page(file, 0, 2, 2, 214, 72, 0);
        checks.is("changes", file.total(5), 6);
    }

    private void toTheEnd() {
        checks.part("promise 3, to the end");
        Run file = new Run();
        file.insert(50, 1);
        file.insert(20, 2);
        file.update(0, 10, 3);
        checks.is("longer than now, if not than at first", file.update(0, 30, 4), true);
        page(file, 0, 2, 2, 188, 103, 0);
        where(file, 0, 0, 0);
        file.update(0, 100, 5);
        page(file, 0, 2, 2, 118, 204, 0);
        checks.is("compacted", file.total(6), 0);
        file.update(1, 36, 6);
        page(file, 0, 2, 2, 102, 138, 0);
        checks.is("compacted by one byte", file.total(6), 1);

        Run just = withRoom29();
        checks.is("as many bytes as are left", just.update(0, 28, 6), true);
        page(just, 0, 3, 3, 5, 236, 0);
        checks.is("not compacted", just.total(6), 0);
    }

    /** Page 0 with cells of 21, 101 and 70 bytes: room is 44. */
    private static Run withRoom44() {
        Run file = new Run();
        file.insert(20, 0);
        file.insert(100, 1);
        file.insert(69, 2);
        return file;
    }

    private void homeByTheLastByte() {
        checks.part("promise 3, the last byte");
        Run file = withRoom44();
        page(file, 0, 3, 3, 44, 192, 0);
        checks.is("just fits", file.update(0, 64, 7), true);
        page(file, 0, 3, 3, 0, 236, 0);
        where(file, 0, 0, 0);
        checks.is("compacted", file.total(6), 1);
        file = withRoom44();
        checks.is("does not fit", file.update(0, 65, 7), true);
        where(file, 0, 1, 0);
        page(file, 0, 3, 3, 60, 192, 1);
        page(file, 1, 1, 1, 174, 70, 0);
        checks.is("home", file.slot(0, 0), 2);
        checks.is("away", file.slot(1, 0), 3);
    }

    /** Page 0 with cells of 5, 101 and 101 bytes: room is 29. */
    private static Run withRoom29() {
        Run file = new Run();
        file.insert(0, 0);
        file.insert(100, 1);
        file.insert(100, 2);
        return file;
    }

    private void awayAndHome() {
        checks.part("promise 3, away and home");
        Run file = withRoom29();
        checks.is("away", file.update(0, 40, 9), true);
        where(file, 0, 1, 0);
        page(file, 0, 3, 3, 29, 207, 1);
        page(file, 1, 1, 1, 199, 45, 0);
        checks.is("away records", file.total(4), 1);
        checks.is("records", file.total(0), 3);
        checks.is("length", file.length(0), 40);
        checks.is("byte", file.byteAt(0, 39), 9 + 273 + 2 - 256);
        checks.is("a byte too long for home", file.update(0, 34, 9), true);
        where(file, 0, 1, 0);
        checks.is("home by the last byte", file.update(0, 33, 9), true);
        where(file, 0, 0, 0);
        page(file, 0, 3, 3, 0, 236, 0);
        checks.is("compacted", file.total(6), 1);
        checks.is("page 1 is free", file.page(1, 0), 0);
        checks.is("away records", file.total(4), 0);
    }

    /** Record 0 is away in page 1 with 45 bytes; page 1 has two more cells and room 4. */
    private static Run withFullPageAway() {
        Run file = withRoom29();
        file.update(0, 40, 3);
        file.insert(100, 4);
        file.insert(85, 5);
        return file;
    }

    private void awayFurther() {
        checks.part("promise 3, away further");
        Run file = withFullPageAway();
        page(file, 1, 3, 3, 4, 232, 0);
        checks.is("further", file.update(0, 60, 6), true);
        where(file, 0, 2, 0);
        checks.is("home", file.slot(0, 0), 2);
        checks.is("where it was", file.slot(1, 0), 0);
        page(file, 0, 3, 3, 29, 207, 1);
        page(file, 1, 3, 2, 49, 232, 0);
        page(file, 2, 1, 1, 179, 65, 0);
        checks.is("away records", file.total(4), 1);
        checks.is("length", file.length(0), 60);
        checks.is("home again", file.update(0, 7, 6), true);
        where(file, 0, 0, 0);
        checks.is("page 2 is free", file.page(2, 0), 0);
    }

    private void awayInPlace() {
        checks.part("promise 3, away in place");
        Run file = withFullPageAway();
        checks.is("by the last byte", file.update(0, 44, 6), true);
        where(file, 0, 1, 0);
        page(file, 1, 3, 3, 0, 236, 0);
        checks.is("compacted", file.total(6), 1);
        checks.is("shorter", file.update(0, 35, 6), true);
        where(file, 0, 1, 0);
        page(file, 1, 3, 3, 9, 236, 0);
        file = withFullPageAway();
        checks.is("one byte more", file.update(0, 45, 6), true);
        where(file, 0, 2, 0);
    }

    /** Page 0 with an empty slot 0, cells of 101 and 28 bytes and room 107; page 1 with 32, 33 and 34, room 13. */
    private static Run withLesserPage() {
        Run file = new Run();
        for (int i = 0; i < 4; i++) {
            file.insert(100, i);
        }
        file.insert(27, 4);
        file.insert(20, 5);
        file.delete(0);
        return file;
    }

    private void awayToALesserPage() {
        checks.part("promise 3, away to a lesser page");
        Run file = withLesserPage();
        page(file, 0, 3, 2, 107, 230, 0);
        page(file, 1, 3, 3, 13, 223, 0);
        checks.is("just fits with 4 for its home and 4 for a slot", file.update(34, 98, 6), true);
        where(file, 34, 0, 0);
        page(file, 0, 3, 3, 4, 232, 0);
        page(file, 1, 3, 3, 29, 223, 1);
        checks.is("compacted", file.total(6), 1);
        checks.is("no record has the number of its cell", file.length(0), NONE);
        file = withLesserPage();
        checks.is("does not fit", file.update(34, 99, 6), true);
        where(file, 34, 2, 0);
    }

    private void placesAway() {
        checks.part("promise 3, places away");
        Run file = withFullPageAway();
        file.insert(100, 7);
        checks.is("into the next page", file.update(0, 60, 8), true);
        where(file, 0, 2, 1);
        checks.is("length", file.length(0), 60);
        checks.is("byte", file.byteAt(0, 1), 15);
        file = withFullPageAway();
        file.insert(100, 7);
        file.insert(72, 7);
        checks.is("room of page 2", file.page(2, 3), 66);
        checks.is("would fit only as a home's cell", file.update(0, 60, 8), true);
        where(file, 0, 3, 0);
    }

    private void awayRefused() {
        checks.part("promise 3, away and refused");
        Run file = withFullPageAway();
        for (int i = 0; i < 18; i++) {
            file.insert(1200, i);
        }
        file.insert(700, 0);
        checks.is("free pages", file.total(1), 0);
        String before = file.picture();
        checks.is("no place further away", file.update(0, 60, 6), false);
        checks.is("no place away", file.update(34, 100, 6), false);
        checks.same("nothing changed", file.picture(), before);
        checks.is("as long as there is room", file.update(0, 44, 6), true);
    }

    private void pagesToBeFreed() {
        checks.part("promise 3, pages that will be free");
        Run file = withRoom29();
        file.update(0, 40, 3);
        checks.is("home with a chain", file.update(0, 101, 4), true);
        where(file, 0, 0, 0);
        checks.is("chain not in the page that it leaves", file.where(0, 3), 2);
        checks.is("page that it left", file.page(1, 0), 0);
        checks.is("another chain", file.update(0, 480, 4), true);
        checks.is("first", file.where(0, 3), 1);
        checks.is("second, for page 2 was not free yet", file.page(1, 7), 3);
        checks.is("page 2", file.page(2, 0), 0);
        checks.is("chain pages", file.total(3), 2);
    }

    private void chains() {
        checks.part("promise 3, chains");
        Run file = new Run();
        file.insert(1200, 1);
        checks.is("the same once more", file.update(160, 1200, 1), true);
        checks.is("first of the chain", file.where(160, 3), 6);
        checks.is("page 0", file.page(0, 0), 0);
        page(file, 5, 1, 1, 235, 9, 0);
        checks.is("short", file.update(160, 8, 2), true);
        checks.is("no chain", file.where(160, 2), 0);
        checks.is("first of none", file.where(160, 3), NONE);
        checks.is("chain pages", file.total(3), 0);
        page(file, 5, 1, 1, 235, 9, 0);
        checks.is("longer", file.update(160, 9, 2), true);
        page(file, 5, 1, 1, 234, 19, 0);
        checks.is("long", file.update(160, 101, 2), true);
        page(file, 5, 1, 1, 235, 19, 0);
        checks.is("chain", file.where(160, 3), 0);

        Run again = new Run();
        checks.is("two pages", again.insert(480, 0), 64);
        checks.is("none", again.update(64, 0, 0), true);
        checks.is("one of them again", again.update(64, 101, 0), true);
        checks.is("page 0", again.page(0, 0), 2);
        checks.is("behind page 0", again.page(0, 7), NONE);
        checks.is("bytes of page 0", again.page(0, 8), 101);
        checks.is("page 1", again.page(1, 0), 0);
        checks.is("page 1 as one of another chain", again.insert(101, 0), 65);
        checks.is("delete", again.delete(64), 101);
        checks.is("page 1 stays", again.page(1, 0), 2);
    }

    private void longAway() {
        checks.part("promise 3, long and away");
        Run file = new Run();
        for (int i = 0; i < 27; i++) {
            file.insert(0, i);
        }
        page(file, 0, 27, 27, 5, 135, 0);
        file.update(0, 5, 0);
        file.update(1, 5, 0);
        file.update(2, 5, 0);
        page(file, 0, 27, 27, 2, 138, 0);
        checks.is("away with a chain", file.update(3, 300, 0), true);
        checks.is("chain", file.where(3, 3), 1);
        where(file, 3, 3, 0);
        page(file, 3, 1, 1, 231, 13, 0);
        page(file, 0, 27, 27, 2, 138, 1);
        checks.is("a longer one in place", file.update(3, 1200, 0), true);
        where(file, 3, 3, 0);
        page(file, 3, 1, 1, 231, 13, 0);
        checks.is("chain", file.where(3, 3), 4);
        checks.is("pages 1 and 2 are free", file.page(1, 0) + file.page(2, 0), 0);
        checks.is("delete", file.delete(3), 1200);
        checks.is("free pages", file.total(1), 95);
    }

    private void refusals() {
        checks.part("promise 3, refused");
        Run file = new Run();
        for (int i = 0; i < 18; i++) {
            file.insert(1200, i);
        }
        file.insert(0, 1);
        file.insert(960, 0);
        String before = file.picture();
        checks.is("free pages", file.total(1), 0);
        checks.is("no pages for the chain, if it needs no more than before", file.update(160, 1200, 1), false);
        checks.is("no place", file.update(178, 1200, 1), false);
        checks.is("no pages at home", file.update(178, 101, 1), false);
        checks.same("nothing changed", file.picture(), before);
        checks.is("a place is there", file.update(178, 100, 1), true);
        where(file, 178, 95, 1);
        checks.is("a second one", file.update(160, 100, 1), true);
        where(file, 160, 95, 2);
        checks.is("its chain is free", file.total(1), 5);
        file.insert(960, 0);
        before = file.picture();
        checks.is("free pages", file.total(1), 1);
        checks.is("the chain leaves no place", file.update(178, 1200, 1), false);
        checks.same("nothing changed", file.picture(), before);
    }

    private void wrongUpdates() {
        checks.part("promise 3, wrong");
        Run file = withFullPageAway();
        String before = file.picture();
        checks.illegal("length -1", () -> file.update(0, -1, 0));
        checks.illegal("length 1201", () -> file.update(0, 1201, 0));
        checks.illegal("seed -1", () -> file.update(0, 0, -1));
        checks.illegal("seed 256", () -> file.update(0, 0, 256));
        int[] none = {-1, 3, 31, 32, 35, 64, 3071, 3072, Integer.MIN_VALUE, Integer.MAX_VALUE};
        for (int record : none) {
            checks.missing("update " + record, () -> file.update(record, 0, 0));
        }
        checks.missing("no record, the length is wrong too", () -> file.update(3, 1201, 0));
        checks.same("nothing changed", file.picture(), before);
    }

    private void deleting() {
        checks.part("promise 4");
        Run file = withRoom29();
        checks.is("length", file.delete(1), 100);
        page(file, 0, 3, 2, 130, 207, 0);
        checks.is("an empty slot", file.slot(0, 1), 0);
        checks.is("length", file.delete(2), 100);
        page(file, 0, 1, 1, 239, 207, 0);
        checks.is("length", file.delete(0), 0);
        checks.is("page 0 is free", file.page(0, 0), 0);
        checks.is("it has no slots", file.slot(0, 0), NONE);
        checks.is("changes", file.total(5), 6);
        checks.is("the number again", file.insert(7, 0), 0);
        page(file, 0, 1, 1, 236, 8, 0);
    }

    private void deletingAway() {
        checks.part("promise 4, away");
        Run file = withFullPageAway();
        checks.is("length", file.delete(0), 40);
        page(file, 0, 3, 2, 34, 207, 0);
        page(file, 1, 3, 2, 49, 232, 0);
        checks.is("away records", file.total(4), 0);
        checks.is("records", file.total(0), 4);
        checks.is("long", file.insert(500, 1), 0);
        checks.is("chain pages", file.total(3), 3);
        checks.is("length", file.delete(0), 500);
        checks.is("chain pages", file.total(3), 0);
        checks.is("free pages", file.total(1), 94);
    }

    private void wrongDeletes() {
        checks.part("promise 4, wrong");
        Run file = withFullPageAway();
        file.delete(1);
        String before = file.picture();
        int[] none = {-1, 1, 3, 31, 32, 64, 3071, 3072, Integer.MIN_VALUE, Integer.MAX_VALUE};
        for (int record : none) {
            checks.missing("delete " + record, () -> file.delete(record));
        }
        checks.same("nothing changed", file.picture(), before);
    }
}
