import java.util.NoSuchElementException;

/** Promises 11 and 12: syncing and crashing. */
final class CrashTest {
    private static final int CHANGES = 140;
    private final Checks checks = new Checks("CrashTest");

    public static void main(String[] args) {
        CrashTest test = new CrashTest();
        test.syncing();
        test.crashing();
        test.wrongCrashes();
        test.everyCrash();
        test.oftenInARow();
        test.behindTheLastCall();
        test.checks.finish();
    }

    private void syncing() {
        checks.part("promise 11");
        Run file = new Run();
        checks.is("at first", file.sync(), 0);
        file.insert(10, 0);
        file.update(0, 20, 0);
        checks.is("two changes", file.sync(), 2);
        checks.is("none since", file.sync(), 0);
        checks.is("changes", file.total(5), 0);
        file.delete(0);
        checks.missing("none such", () -> file.delete(0));
        checks.is("a delete that threw is none", file.sync(), 1);
        for (int i = 0; i < 20; i++) {
            file.insert(1200, i);
        }
        checks.is("a refused insert is none", file.sync(), 19);
        checks.is("refused", file.update(160, 240, 0), false);
        checks.is("a refused update is none", file.sync(), 0);
        checks.is("the file is as it was", file.total(0), 19);
    }

    private void crashing() {
        checks.part("promise 12");
        Run file = new Run();
        file.insert(10, 1);
        file.insert(20, 2);
        file.sync();
        file.insert(30, 3);
        file.update(0, 40, 4);
        file.delete(1);
        checks.is("one lost", file.crash(2), 1);
        checks.is("not deleted", file.length(1), 20);
        checks.is("updated", file.length(0), 40);
        checks.is("its seed", file.byteAt(0, 0), 4);
        checks.is("changes", file.total(5), 0);
        checks.is("crashes", file.total(7), 1);
        checks.is("nothing to lose", file.crash(0), 0);
        checks.is("what was left is synced", file.length(0), 40);
        checks.is("crashes", file.total(7), 2);
        file.delete(0);
        file.delete(1);
        checks.is("all lost", file.crash(0), 2);
        checks.is("at the sync", file.length(0), 40);
        file.delete(0);
        checks.is("none lost", file.crash(1), 0);
        checks.is("deleted", file.length(0), SlotFile.NONE);
        checks.is("synced", file.sync(), 0);
    }

    private void wrongCrashes() {
        checks.part("promise 12, wrong");
        Run file = new Run();
        checks.illegal("1 of none", () -> file.crash(1));
        file.insert(10, 1);
        file.insert(10, 1);
        String before = file.picture();
        checks.illegal("3 of 2", () -> file.crash(3));
        checks.illegal("-1", () -> file.crash(-1));
        checks.illegal("the least", () -> file.crash(Integer.MIN_VALUE));
        checks.illegal("the greatest", () -> file.crash(Integer.MAX_VALUE));
        checks.same("nothing changed", file.picture(), before);
        file.sync();
        checks.illegal("1 of none behind a sync", () -> file.crash(1));
    }

    /** The n-th of a row of changes that meets inserts, updates of all sorts and deletes. */
    private static void change(Run file, int n) {
        int length = n % 7 == 3 ? 101 + n * 37 % 1100 : n * 29 % 101;
        int record = file.next(n * 53 % 200);
        if (record == SlotFile.NONE) {
            record = file.next(SlotFile.NONE);
        }
        if (n % 2 == 0 || record == SlotFile.NONE) {
            file.insert(length, n % 256);
        } else if (n % 9 == 5) {
            file.delete(record);
        } else {
            file.update(record, length, n % 256);
        }
    }

    private static Run changed(int count) {
        Run file = new Run();
        for (int n = 0; n < count; n++) {
            change(file, n);
        }
        return file;
    }

    private void everyCrash() {
        checks.part("promise 12, to each change");
        Run whole = changed(CHANGES);
        int compacted = whole.total(6);
        checks.is("none was refused", whole.total(5), CHANGES);
        checks.is("some are away", whole.total(4) > 0, true);
        checks.is("some were compacted", compacted > 0, true);
        for (int k = 0; k <= CHANGES; k++) {
            Run file = changed(CHANGES);
            checks.is("lost behind " + k, file.crash(k), CHANGES - k);
            checks.same("the file behind " + k, file.filePicture(), changed(k).filePicture());
            checks.is("compacted", file.total(6), compacted);
            checks.is("crashes", file.total(7), 1);
            checks.is("changes", file.total(5), 0);
        }
    }

    private void oftenInARow() {
        checks.part("promise 12, often");
        Run file = new Run();
        Run calm = new Run();
        for (int n = 0; n < 40; n++) {
            change(calm, n);
            change(file, n);
            int kept = file.total(5);
            change(file, n + 1000);
            change(file, n + 2000);
            file.crash(kept);
            checks.same("behind " + n, file.filePicture(), calm.filePicture());
            if (n % 10 == 0) {
                file.sync();
            }
        }
    }

    /** What is answered there is free, but by LANGUAGE.md nothing may be thrown that the document does not name. */
    private void behindTheLastCall() {
        checks.part("behind the 512th call");
        SlotFile file = new SlotFile();
        for (int n = 0; n < 5000; n++) {
            try {
                lateCall(file, n);
            } catch (NoSuchElementException | IllegalArgumentException e) {
                continue;
            } catch (RuntimeException e) {
                checks.fail("call " + n + " threw " + e);
            }
        }
    }

    private static void lateCall(SlotFile file, int n) {
        int length = n % 7 == 3 ? 101 + n * 37 % 1100 : n * 29 % 101;
        int record = file.next(n * 53 % 2000);
        if (n % 1700 == 1699) {
            file.crash(file.total(5) / 2);
        } else if (n % 2 == 0) {
            file.insert(length, n % 256);
        } else if (n % 9 == 5) {
            file.delete(record);
        } else {
            file.update(record, length, n % 256);
        }
    }
}
