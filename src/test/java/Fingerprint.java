/** All that the face tells of a file, as a text with a line for each page and each record. */
final class Fingerprint {
    private Fingerprint() {
    }

    /** Without the counts that a crash leaves alone or sets anew: changes, compactings, crashes. */
    static String ofFile(SlotFile file) {
        StringBuilder text = new StringBuilder();
        for (int what = 0; what <= 4; what++) {
            text.append("total ").append(what).append(": ").append(file.total(what)).append('\n');
        }
        for (int page = 0; page < 96; page++) {
            text.append("page ").append(page).append(':');
            for (int what = 0; what <= 8; what++) {
                text.append(' ').append(file.page(page, what));
            }
            text.append(" slots");
            for (int slot = 0; slot < 33; slot++) {
                text.append(' ').append(file.slot(page, slot));
            }
            text.append('\n');
        }
        int record = file.next(SlotFile.NONE);
        for (int i = 0; i < 3072 && record != SlotFile.NONE; i++) {
            appendRecord(text, file, record);
            record = file.next(record);
        }
        return text.toString();
    }

    static String ofAll(SlotFile file) {
        return ofFile(file) + "changes " + file.total(5) + " compactings " + file.total(6)
            + " crashes " + file.total(7) + "\n";
    }

    private static void appendRecord(StringBuilder text, SlotFile file, int record) {
        int length = file.length(record);
        text.append("record ").append(record).append(": ").append(length).append(" where");
        for (int what = 0; what <= 3; what++) {
            text.append(' ').append(file.where(record, what));
        }
        text.append(" bytes ").append(file.byteAt(record, 0)).append(' ').append(file.byteAt(record, length - 1));
        text.append(' ').append(file.byteAt(record, length)).append('\n');
    }
}
