/** The sentences on changes, syncing, crashing, calls that throw and 512 calls, each at its edges. */
final class CrashEdgeTest {
    private static final int NONE = SlotFile.NONE;
    private final Checks checks = new Checks("CrashEdgeTest");

    public static void main(String[] args) {
        CrashEdgeTest test = new CrashEdgeTest();
        test.atFirstNone();
        test.whatIsAChange();
        test.refusedIsNone();
        test.throwingIsNone();
        test.everyKOfAll();
        test.noSuchK();
        test.theseAreSyncedThen();
        test.crashBehindRefusals();
        test.fullFileAgain();
        test.emptyFileAgain();
        test.chainsAgain();
        test.endsAgain();
        test.countsStay();
        test.last512Changes();
        test.last512thCall();
        test.syncsAndCrashes512();
        test.checks.finish();
    }

    private void atFirstNone() {
        checks.part("'counted since the latest SYNC (at first none)'");
        Run run = new Run();
        checks.is("changes", run.total(5), 0);
        checks.illegal("crash to 1", () -> run.crash(1));
        checks.is("crash to 0", run.crash(0), 0);
        checks.is("crashes", run.total(7), 1);
        checks.is("sync", run.sync(), 0);
        checks.is("free pages", run.total(1), 96);
        checks.is("first record", run.insert(1, 1), 0);
        checks.is("sync", run.sync(), 1);
        checks.is("sync again", run.sync(), 0);
    }

    private void whatIsAChange() {
        checks.part("'CHANGES are inserts, updates, deletes'");
        Run run = new Run();
        run.insert(5, 5);
        checks.is("an insert", run.total(5), 1);
        run.update(0, 5, 5);
        checks.is("an update to the same value", run.total(5), 2);
        run.delete(0);
        checks.is("a delete", run.total(5), 3);
        run.length(0);
        run.next(NONE);
        run.page(0, 0);
        run.slot(0, 0);
        run.total(0);
        checks.is("asking is none", run.total(5), 3);
        checks.is("sync", run.sync(), 3);
        checks.is("changes", run.total(5), 0);
    }

    /** No page is free; page 5 has room 5, page 95 room 1. */
    private static Run full() {
        return new Run().inserts(18, 1200).inserts(1, 0).inserts(1, 960).inserts(26, 0);
    }

    private void refusedIsNone() {
        checks.part("'that were not refused'");
        Run run = full();
        checks.is("sync", run.sync(), 46);
        checks.is("insert", run.insert(0, 0), NONE);
        checks.is("insert with a chain", run.insert(1200, 0), NONE);
        checks.is("update", run.update(3041, 6, 0), false);
        checks.is("update with a chain", run.update(160, 1200, 0), false);
        checks.is("changes", run.total(5), 0);
        checks.illegal("crash to 1", () -> run.crash(1));
        checks.is("crash to 0", run.crash(0), 0);
        checks.is("sync", run.sync(), 0);
    }

    private void throwingIsNone() {
        checks.part("'A call that throws changes nothing'");
        Run run = full();
        run.update(3041, 5, 1);
        checks.unchanged("calls that throw", run, () -> {
            checks.illegal("insert", () -> run.insert(1201, 0));
            checks.illegal("update", () -> run.update(3041, 0, 256));
            checks.missing("update of none", () -> run.update(3067, 0, 0));
            checks.missing("delete", () -> run.delete(3067));
            checks.missing("byteAt", () -> run.byteAt(3067, 0));
            checks.illegal("where", () -> run.where(3041, 4));
            checks.illegal("page", () -> run.page(96, 0));
            checks.illegal("slot", () -> run.slot(0, -1));
            checks.illegal("crash", () -> run.crash(48));
            checks.illegal("total", () -> run.total(8));
        });
        checks.is("changes", run.total(5), 47);
        checks.is("crashes", run.total(7), 0);
        checks.is("all of them are kept", run.crash(47), 0);
        checks.is("the last one too", run.length(3041), 5);
    }

    /** The first changes of a row: all ways in which a cell can move, with chains and with compacting. */
    private static Run changes(int count) {
        Run run = new Run();
        int[][] row = {
            {NONE, 0}, {NONE, 100}, {NONE, 100}, {0, 29}, {0, 40}, {NONE, 100}, {NONE, 85}, {0, 44}, {0, 60},
            {NONE, 500}, {0, 33}, {32, NONE}, {0, 1200}, {1, NONE}, {NONE, 241}, {0, NONE}, {2, NONE},
        };
        for (int i = 0; i < count; i++) {
            int record = row[i][0];
            int length = row[i][1];
            if (record == NONE) {
                run.insert(length, i);
            } else if (length == NONE) {
                run.delete(record);
            } else {
                run.update(record, length, i);
            }
        }
        return run;
    }

    private static final int ROW = 17;

    private void everyKOfAll() {
        checks.part("'the file is just as it was behind the first k of them (k of 0: at the sync)'");
        checks.is("all are changes", changes(ROW).total(5), ROW);
        checks.is("some were compacted", changes(ROW).total(6) > 0, true);
        for (int k = 0; k <= ROW; k++) {
            Run run = changes(ROW);
            checks.is("lost behind " + k, run.crash(k), ROW - k);
            checks.same("behind " + k, run.filePicture(), changes(k).filePicture());
        }
        for (int synced = 0; synced <= ROW; synced++) {
            Run run = changes(synced);
            run.sync();
            String due = run.filePicture();
            run.insert(50, 0);
            run.insert(300, 0);
            run.delete(run.next(NONE));
            checks.is("lost", run.crash(0), 3);
            checks.same("at the sync behind " + synced, run.filePicture(), due);
        }
    }

    private void noSuchK() {
        checks.part("'there are not so many, or k is below 0'");
        Run run = changes(3);
        checks.unchanged("wrong numbers", run, () -> {
            for (int k : new int[] {4, 5, 512, Integer.MAX_VALUE, -1, -2, Integer.MIN_VALUE}) {
                checks.illegal("crash to " + k, () -> run.crash(k));
            }
        });
        checks.is("crashes", run.total(7), 0);
        checks.is("crash to all", run.crash(3), 0);
        checks.is("crashes", run.total(7), 1);
        run.insert(0, 0);
        checks.illegal("2 of 1", () -> run.crash(2));
        checks.is("1 of 1", run.crash(1), 0);
    }

    private void theseAreSyncedThen() {
        checks.part("'these are synced then'");
        Run run = changes(9);
        run.crash(5);
        String due = run.filePicture();
        checks.is("changes", run.total(5), 0);
        checks.illegal("crash to 1", () -> run.crash(1));
        checks.is("crash to 0", run.crash(0), 0);
        checks.same("as behind the first crash", run.filePicture(), due);
        run.delete(0);
        checks.is("one lost", run.crash(0), 1);
        checks.same("as behind the first crash", run.filePicture(), due);
        checks.is("sync", run.sync(), 0);
        run.delete(0);
        checks.is("sync counts from the crash on", run.sync(), 1);
        checks.is("crashes", run.total(7), 3);
    }

    private void crashBehindRefusals() {
        checks.part("refused changes are not among the first k");
        Run run = full();
        run.sync();
        checks.is("refused", run.insert(0, 0), NONE);
        checks.is("first", run.delete(3066), 0);
        checks.is("refused", run.insert(6, 0), NONE);
        checks.is("second", run.insert(5, 1), 3066);
        checks.is("refused", run.update(3066, 6, 0), false);
        checks.is("third", run.update(3066, 4, 2), true);
        checks.is("changes", run.total(5), 3);
        checks.is("one lost", run.crash(2), 1);
        checks.is("length", run.length(3066), 5);
        checks.is("seed", run.byteAt(3066, 0), 1);
    }

    private void fullFileAgain() {
        checks.part("a full file is full again");
        Run run = full();
        run.sync();
        String due = run.filePicture();
        checks.is("delete", run.delete(160), 1200);
        checks.is("delete", run.delete(161), 1200);
        checks.is("free pages", run.total(1), 10);
        checks.is("insert", run.insert(100, 9), 0);
        checks.is("lost", run.crash(0), 3);
        checks.same("as it was", run.filePicture(), due);
        checks.is("refused again", run.insert(0, 0), NONE);
        checks.is("refused again", run.update(160, 101, 0), false);
        checks.is("no change", run.total(5), 0);
    }

    private void emptyFileAgain() {
        checks.part("an empty file is empty again");
        Run run = full();
        checks.is("lost", run.crash(0), 46);
        checks.same("as a new one", run.filePicture(), new Run().filePicture());
        checks.is("the same numbers again", run.insert(1200, 0), 160);
        run.delete(160);
        checks.is("empty by changes", run.crash(2), 0);
        checks.same("as a new one", run.filePicture(), new Run().filePicture());
    }

    private void chainsAgain() {
        checks.part("chains are as they were");
        Run run = new Run();
        run.insert(1200, 1);
        run.insert(300, 2);
        run.sync();
        run.update(160, 700, 3);
        run.delete(161);
        run.insert(800, 4);
        checks.is("lost", run.crash(1), 2);
        checks.same("the new chain", run.place(160), "5.0 chain of 3 from 8");
        checks.same("the old one", run.place(161), "5.1 chain of 2 from 6");
        checks.same("its first page", run.told(6), "chain, next 7, bytes 240");
        checks.same("its last page", run.told(7), "chain, next -1, bytes 60");
        checks.same("a page of the old chain", run.told(0), "free");
        checks.is("byte", run.byteAt(160, 699), (3 + 7 * 699 + 43) % 256);
        checks.is("the next chain", run.insert(240, 0), 162);
        checks.is("its page", run.where(162, 3), 0);
    }

    private void endsAgain() {
        checks.part("ends and empty slots are as they were");
        Run run = new Run().inserts(3, 10);
        run.delete(1);
        run.update(0, 11, 0);
        run.sync();
        checks.same("page", run.told(0), "slots 3, cells 2, room 213, end 45, stubs 0");
        run.insert(20, 0);
        run.delete(2);
        run.delete(1);
        run.delete(0);
        checks.same("page", run.told(0), "free");
        checks.is("lost", run.crash(0), 4);
        checks.same("page", run.told(0), "slots 3, cells 2, room 213, end 45, stubs 0");
        checks.is("the empty slot", run.insert(20, 0), 1);
        checks.same("page", run.told(0), "slots 3, cells 3, room 192, end 66, stubs 0");
    }

    private void countsStay() {
        checks.part("'how often a page was compacted in all (6), crashes (7) (both stay as they are in a crash)'");
        Run run = new Run().inserts(1, 0).inserts(2, 100);
        run.update(0, 29, 0);
        checks.is("compacted", run.total(6), 1);
        checks.is("lost with it", run.crash(3), 1);
        checks.same("page", run.told(0), "slots 3, cells 3, room 29, end 207, stubs 0");
        checks.is("stays", run.total(6), 1);
        run.update(0, 29, 0);
        checks.is("compacted once more", run.total(6), 2);
        checks.is("kept with it", run.crash(1), 0);
        checks.same("page", run.told(0), "slots 3, cells 3, room 4, end 232, stubs 0");
        checks.is("stays", run.total(6), 2);
        run.sync();
        checks.is("stays in a sync", run.total(6), 2);
        checks.is("crashes", run.total(7), 2);
        run.crash(0);
        checks.is("crashes", run.total(7), 3);
        run.delete(0);
        run.delete(1);
        run.delete(2);
        checks.is("stays when the page is free", run.total(6), 2);
    }

    /** 511 changes: an insert and 510 updates; the n-th has the length n modulo 60 and the seed n modulo 256. */
    private static Run with511Changes() {
        Run run = new Run();
        run.insert(0, 0);
        for (int n = 1; n < 511; n++) {
            run.update(0, n % 60, n % 256);
        }
        return run;
    }

    private void last512Changes() {
        checks.part("'at most 512 calls', all of them changes");
        Run run = new Run();
        for (int n = 0; n < 512; n++) {
            checks.is("insert " + n, run.insert(0, 0), n / 27 * 32 + n % 27);
        }
        checks.is("no call is left", run.callsLeft(), 0);
        checks.is("the 512th is an update", with511Changes().update(0, 100, 0), true);
        checks.is("the 512th is a delete", with511Changes().delete(0), 510 % 60);
    }

    private void last512thCall() {
        checks.part("'at most 512 calls', the last one behind 511 changes");
        checks.is("total", with511Changes().total(5), 511);
        checks.is("sync", with511Changes().sync(), 511);
        checks.is("crash to 0", with511Changes().crash(0), 511);
        checks.is("crash to 510", with511Changes().crash(510), 1);
        checks.is("crash to 511", with511Changes().crash(511), 0);
        checks.illegal("crash to 512", () -> with511Changes().crash(512));
        checks.is("length", with511Changes().length(0), 30);
        checks.is("byte", with511Changes().byteAt(0, 0), 254);

        Run run = new Run();
        run.insert(0, 0);
        for (int n = 1; n < 509; n++) {
            run.update(0, n % 60, n % 256);
        }
        checks.is("two calls before the last", run.crash(507), 2);
        checks.is("one before the last", run.length(0), 506 % 60);
        checks.is("the last", run.byteAt(0, 0), 506 % 256);
        checks.is("no call is left", run.callsLeft(), 0);
    }

    private void syncsAndCrashes512() {
        checks.part("'at most 512 calls' of sync and of crash");
        Run run = new Run();
        for (int n = 0; n < 170; n++) {
            checks.is("insert", run.insert(0, 0), 0);
            checks.is("crash", run.crash(0), 1);
            checks.is("sync", run.sync(), 0);
        }
        checks.is("crashes", run.total(7), 170);
        checks.is("records", run.total(0), 0);
        Run crashes = new Run();
        for (int n = 0; n < 511; n++) {
            crashes.crash(0);
        }
        checks.is("crashes", crashes.total(7), 511);
    }
}
