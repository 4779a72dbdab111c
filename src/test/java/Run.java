import java.util.ArrayList;
import java.util.List;

/**
 * A SlotFile that keeps the calls made on it. A whole picture of it takes thousands of calls: they are asked of
 * new objects with the same calls behind them, so that no object comes behind its 512th call.
 */
final class Run {
    /** A call of the face; a boolean counts 1 or 0. */
    interface Call {
        long on(SlotFile file);
    }

    private record Question(String text, Call call) {
    }

    static final int MOST_CALLS = 512;
    private static final int RECORDS = 96 * 32;

    private final SlotFile file = new SlotFile();
    private final List<Call> calls = new ArrayList<>();

    int insert(int length, int seed) {
        return ask(f -> f.insert(length, seed));
    }

    boolean update(int record, int length, int seed) {
        return ask(f -> f.update(record, length, seed) ? 1 : 0) == 1;
    }

    int delete(int record) {
        return ask(f -> f.delete(record));
    }

    int length(int record) {
        return ask(f -> f.length(record));
    }

    int byteAt(int record, int i) {
        return ask(f -> f.byteAt(record, i));
    }

    int where(int record, int what) {
        return ask(f -> f.where(record, what));
    }

    int next(int record) {
        return ask(f -> f.next(record));
    }

    int page(int page, int what) {
        return ask(f -> f.page(page, what));
    }

    int slot(int page, int slot) {
        return ask(f -> f.slot(page, slot));
    }

    int sync() {
        return ask(SlotFile::sync);
    }

    int crash(int k) {
        return ask(f -> f.crash(k));
    }

    int total(int what) {
        return ask(f -> f.total(what));
    }

    int callsLeft() {
        return MOST_CALLS - calls.size();
    }

    /** Inserts that must all have a place, of length bytes each. */
    Run inserts(int count, int length) {
        for (int i = 0; i < count; i++) {
            if (insert(length, i) == SlotFile.NONE) {
                throw new AssertionError("insert " + i + " of length " + length + " was refused");
            }
        }
        return this;
    }

    /** What a page is, in words. */
    String told(int page) {
        int kind = page(page, 0);
        if (kind == 2) {
            return "chain, next " + page(page, 7) + ", bytes " + page(page, 8);
        }
        return kind == 0 ? "free" : "slots " + page(page, 1) + ", cells " + page(page, 2) + ", room " + page(page, 3)
            + ", end " + page(page, 4) + ", stubs " + page(page, 6);
    }

    /** Where a record's value is: page.slot, and its chain if it has one. */
    String place(int record) {
        int chain = where(record, 2);
        String cell = where(record, 0) + "." + where(record, 1);
        return chain == 0 ? cell : cell + " chain of " + chain + " from " + where(record, 3);
    }

    /** All that is told but for the counts of changes, compactings and crashes. */
    String filePicture() {
        return picture(4);
    }

    /** All that is told. */
    String picture() {
        return picture(7);
    }

    private String picture(int lastTotal) {
        List<Question> first = new ArrayList<>();
        for (int what = 0; what <= lastTotal; what++) {
            int asked = what;
            first.add(new Question("total(" + what + ")", f -> f.total(asked)));
        }
        for (int page = 0; page < 96; page++) {
            addPage(first, page);
        }
        for (int record = 0; record < RECORDS; record++) {
            int asked = record;
            first.add(new Question("length(" + record + ")", f -> f.length(asked)));
        }
        List<Long> answers = answers(first);
        List<Question> second = new ArrayList<>();
        for (int record = 0; record < RECORDS; record++) {
            long length = answers.get(first.size() - RECORDS + record);
            if (length != SlotFile.NONE) {
                addRecord(second, record, (int) length);
            }
        }
        return text(first, answers) + text(second, answers(second));
    }

    private static void addPage(List<Question> questions, int page) {
        for (int what = 0; what <= 8; what++) {
            int asked = what;
            questions.add(new Question("page(" + page + ", " + what + ")", f -> f.page(page, asked)));
        }
        for (int slot = 0; slot <= 32; slot++) {
            int asked = slot;
            questions.add(new Question("slot(" + page + ", " + slot + ")", f -> f.slot(page, asked)));
        }
    }

    private static void addRecord(List<Question> questions, int record, int length) {
        for (int what = 0; what <= 3; what++) {
            int asked = what;
            questions.add(new Question("where(" + record + ", " + what + ")", f -> f.where(record, asked)));
        }
        int[] bytes = {0, length - 1, length};
        for (int i : bytes) {
            questions.add(new Question("byteAt(" + record + ", " + i + ")", f -> f.byteAt(record, i)));
        }
        questions.add(new Question("next(" + record + ")", f -> f.next(record)));
    }

    private List<Long> answers(List<Question> questions) {
        List<Long> answers = new ArrayList<>();
        SlotFile asked = null;
        int left = 0;
        for (Question question : questions) {
            if (left == 0) {
                asked = again();
                left = callsLeft();
            }
            answers.add(question.call().on(asked));
            left--;
        }
        return answers;
    }

    /** A new object with the same calls behind it, of which as many are left. */
    SlotFile again() {
        if (callsLeft() == 0) {
            throw new AssertionError("no call is left for a picture");
        }
        SlotFile other = new SlotFile();
        for (Call call : calls) {
            try {
                call.on(other);
            } catch (RuntimeException e) {
                // It threw the first time too, and the test that made the call has looked at it.
            }
        }
        return other;
    }

    private static String text(List<Question> questions, List<Long> answers) {
        StringBuilder text = new StringBuilder();
        for (int i = 0; i < questions.size(); i++) {
            text.append(questions.get(i).text()).append(" is ").append(answers.get(i)).append('\n');
        }
        return text.toString();
    }

    private int ask(Call call) {
        if (callsLeft() == 0) {
            throw new AssertionError("a test asks behind the 512th call");
        }
        calls.add(call);
        return (int) call.on(file);
    }
}
