/**
 * All that can be seen of a grader, as one text: the error, the table, the pieces, the lots, each state that can be
 * undone to, both slots, and the text buffer. The grader is used up by it; it takes some 250 calls with a small pattern.
 */
final class Picture {
    private final KnitGrader grader;
    private final StringBuilder seen = new StringBuilder();

    private Picture(KnitGrader grader) {
        this.grader = grader;
    }

    static String of(KnitGrader grader) {
        Picture picture = new Picture(grader);
        picture.buffer();
        picture.see("code", grader::errorCode);
        picture.see("position", grader::errorPosition);
        picture.see("slot 0 differs", () -> grader.differences(0));
        picture.see("slot 1 differs", () -> grader.differences(1));
        picture.state();
        for (int left = grader.count(8); left > 0; left--) {
            picture.see("undo", grader::undo);
            picture.state();
        }
        for (int slot = 0; slot < 2; slot++) {
            int restored = slot;
            picture.see("restore " + slot, Check.done(() -> grader.restore(restored)));
            picture.state();
        }
        return picture.seen.toString();
    }

    private void see(String what, Check.Call call) {
        seen.append(what).append(' ').append(Check.told(call)).append("; ");
    }

    /** Its length by an append that is taken back, its content (if it is a name) by a find. */
    private void buffer() {
        String longer = Check.told(() -> grader.append(0, 0, 0, 0, 0));
        see("buffer and 20", () -> longer);
        if (!longer.startsWith("throws")) {
            grader.truncate(Integer.parseInt(longer) - 20);
            see("buffer", () -> grader.find(1));
        }
    }

    private void state() {
        for (int what = 0; what <= 8; what++) {
            int asked = what;
            see("count " + what, () -> grader.count(asked));
        }
        int sizes = grader.count(0);
        int measures = grader.count(1);
        int pieces = grader.count(3);
        int lots = grader.count(4);
        for (int i = 0; i < measures * sizes; i++) {
            int at = i;
            see("value", () -> grader.value(at / sizes, at % sizes));
        }
        for (int i = 0; i < 2 * lots; i++) {
            int at = i;
            see("lot", () -> grader.lot(at / 2, at % 2));
        }
        for (int i = 0; i < pieces * sizes; i++) {
            int at = i;
            see("rows", () -> grader.rows(at % sizes, at / sizes));
            see("failure", () -> grader.failure(at % sizes, at / sizes));
        }
        eases(pieces);
        see("possible", grader::possible);
    }

    private void eases(int pieces) {
        for (int piece = 0; piece < pieces; piece++) {
            int parts = grader.parts(piece);
            for (int part = 0; part < parts; part++) {
                int ofPiece = piece;
                int ofPart = part;
                see("ease", () -> grader.part(ofPiece, ofPart, 3));
            }
        }
    }
}
