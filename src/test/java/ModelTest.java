import java.util.NoSuchElementException;
import java.util.Random;

/**
 * Long runs of calls, made by fixed seeds, on a SlotFile and on the Model: all answers must be the same. No object
 * comes behind its 512th call: to compare all that is told, new objects with the same calls behind them are asked.
 */
final class ModelTest {
    /** A call on either of the two, with a boolean told as 1 or 0. */
    interface Call {
        long answer();
    }

    private static final int RUNS = 400;
    private static final int CALLS = 448;
    private static final long MISSING = Long.MIN_VALUE;
    private static final long ILLEGAL = Long.MIN_VALUE + 1;

    private final Checks checks = new Checks("ModelTest");
    private final int[] answersByKind = new int[8];
    private Random random;
    private Run file;
    private Model model;
    private SlotFile asked;
    private int asksLeft;
    private int longShare;
    private int shortMost;
    private int deleteShare;

    public static void main(String[] args) {
        new ModelTest().runAll();
    }

    private void runAll() {
        for (int run = 0; run < RUNS && checks.allAsDue(); run++) {
            checks.part("run " + run);
            oneRun(run);
        }
        checks.is("refused inserts were met", answersByKind[0] > 100, true);
        checks.is("refused updates were met", answersByKind[1] > 100, true);
        checks.is("records away were met", answersByKind[2] > 100, true);
        checks.is("compactings were met", answersByKind[3] > 100, true);
        checks.finish();
    }

    private void oneRun(int seed) {
        random = new Random(seed);
        file = new Run();
        model = new Model();
        longShare = new int[] {0, 5, 30, 70}[seed % 4];
        shortMost = new int[] {4, 20, 100, 100}[seed / 4 % 4];
        deleteShare = new int[] {2, 10, 25}[seed / 16 % 3];
        int between = seed * 37 % CALLS;
        for (int i = 1; i <= CALLS && checks.allAsDue(); i++) {
            oneCall();
            if (i == between || i == CALLS) {
                compareAll();
            }
        }
        answersByKind[2] += model.total(4);
        answersByKind[3] += model.total(6);
    }

    private void oneCall() {
        int dice = random.nextInt(100);
        if (dice < 2) {
            same("sync()", () -> file.sync(), () -> model.sync());
        } else if (dice < 4) {
            int k = random.nextInt(10) == 0 ? random.nextInt(600) - 50 : model.total(5) - random.nextInt(3);
            same("crash(" + k + ")", () -> file.crash(k), () -> model.crash(k));
        } else if (dice < 8) {
            wildCall();
        } else if (dice < 8 + deleteShare) {
            int record = someRecord();
            same("delete(" + record + ")", () -> file.delete(record), () -> model.delete(record));
        } else if (dice < 60) {
            insert();
        } else {
            update();
        }
    }

    private void insert() {
        int length = someLength();
        int seed = random.nextInt(256);
        long answer = same("insert(" + length + ", " + seed + ")",
            () -> file.insert(length, seed), () -> model.insert(length, seed));
        answersByKind[0] += answer == SlotFile.NONE ? 1 : 0;
    }

    private void update() {
        int record = someRecord();
        int length = someLength();
        int seed = random.nextInt(256);
        long answer = same("update(" + record + ", " + length + ", " + seed + ")",
            () -> file.update(record, length, seed) ? 1 : 0, () -> model.update(record, length, seed) ? 1 : 0);
        answersByKind[1] += answer == 0 ? 1 : 0;
    }

    /** Arguments of all sorts, most of them wrong. */
    private void wildCall() {
        int a = wildNumber();
        int b = wildNumber();
        int c = wildNumber();
        String told = "(" + a + ", " + b + ", " + c + ")";
        switch (random.nextInt(10)) {
            case 0 -> same("insert" + told, () -> file.insert(a, b), () -> model.insert(a, b));
            case 1 -> same("update" + told, () -> file.update(a, b, c) ? 1 : 0, () -> model.update(a, b, c) ? 1 : 0);
            case 2 -> same("delete" + told, () -> file.delete(a), () -> model.delete(a));
            case 3 -> same("length" + told, () -> file.length(a), () -> model.length(a));
            case 4 -> same("byteAt" + told, () -> file.byteAt(a, b), () -> model.byteAt(a, b));
            case 5 -> same("where" + told, () -> file.where(a, b), () -> model.where(a, b));
            case 6 -> same("next" + told, () -> file.next(a), () -> model.next(a));
            case 7 -> same("page" + told, () -> file.page(a, b), () -> model.page(a, b));
            case 8 -> same("slot" + told, () -> file.slot(a, b), () -> model.slot(a, b));
            default -> same("total" + told, () -> file.total(a), () -> model.total(a));
        }
    }

    private void compareAll() {
        asksLeft = 0;
        for (int what = 0; what <= 7; what++) {
            int nth = what;
            same("total(" + what + ")", () -> again().total(nth), () -> model.total(nth));
        }
        for (int page = 0; page < 96; page++) {
            comparePage(page);
        }
        int record = SlotFile.NONE;
        for (int i = 0; i <= 3072; i++) {
            int from = record;
            record = (int) same("next(" + from + ")", () -> again().next(from), () -> model.next(from));
            if (record == SlotFile.NONE) {
                break;
            }
            compareRecord(record);
        }
    }

    private void comparePage(int page) {
        for (int what = 0; what <= 8; what++) {
            int nth = what;
            same("page(" + page + ", " + what + ")", () -> again().page(page, nth), () -> model.page(page, nth));
        }
        for (int slot = 0; slot <= 32; slot++) {
            int nth = slot;
            same("slot(" + page + ", " + slot + ")", () -> again().slot(page, nth), () -> model.slot(page, nth));
        }
    }

    private void compareRecord(int record) {
        int length = (int) same("length(" + record + ")", () -> again().length(record), () -> model.length(record));
        for (int what = 0; what <= 3; what++) {
            int nth = what;
            same("where(" + record + ", " + what + ")",
                () -> again().where(record, nth), () -> model.where(record, nth));
        }
        int[] places = {-1, 0, length / 2, length - 1, length};
        for (int i : places) {
            same("byteAt(" + record + ", " + i + ")", () -> again().byteAt(record, i), () -> model.byteAt(record, i));
        }
    }

    /** An object with all calls of the run behind it that may be asked once more. */
    private SlotFile again() {
        if (asksLeft == 0) {
            asked = file.again();
            asksLeft = file.callsLeft();
        }
        asksLeft--;
        return asked;
    }

    private long same(String what, Call call, Call dueCall) {
        long got = answer(call);
        long due = answer(dueCall);
        checks.is(what, got, due);
        return due;
    }

    private static long answer(Call call) {
        try {
            return call.answer();
        } catch (NoSuchElementException e) {
            return MISSING;
        } catch (IllegalArgumentException e) {
            return ILLEGAL;
        }
    }

    private int someLength() {
        if (random.nextInt(100) < longShare) {
            return 101 + random.nextInt(1100);
        }
        return random.nextInt(shortMost + 1);
    }

    /** Mostly a record that is there. */
    private int someRecord() {
        int from = random.nextInt(100) < 90 ? random.nextInt(32 * (2 + random.nextInt(95))) : random.nextInt(3072);
        int record = model.next(from - 1);
        return record == SlotFile.NONE ? model.next(SlotFile.NONE) : record;
    }

    private int wildNumber() {
        int[] edges = {-1, 0, 1, 8, 9, 31, 32, 95, 96, 100, 101, 255, 256, 1200, 1201, 3071, 3072,
            Integer.MIN_VALUE, Integer.MAX_VALUE, -32};
        return random.nextInt(2) == 0 ? edges[random.nextInt(edges.length)] : random.nextInt(120);
    }
}
