/**
 * All that can be seen of a grader but for its names, as one text: the text buffer, the error, the charts, the parts, the
 * state with its table and lots, each state that can be undone to, and both slots. The grader is used up by it: it takes
 * some 300 calls with a small pattern.
 */
final class Picture {
    private final KnitGrader grader;
    private final StringBuilder seen = new StringBuilder();

    private Picture(KnitGrader grader) {
        this.grader = grader;
    }

    static String of(KnitGrader grader) {
        Picture picture = new Picture(grader);
        picture.buffer();
        picture.see("code", grader::errorCode);
        picture.see("position", grader::errorPosition);
        picture.see("slot 0 differs", () -> grader.differences(0));
        picture.see("slot 1 differs", () -> grader.differences(1));
        picture.charts();
        picture.parts();
        picture.state();
        for (int left = grader.count(8); left > 0; left--) {
            picture.see("undo", grader::undo);
            picture.state();
        }
        for (int slot = 0; slot < 2; slot++) {
            int restored = slot;
            picture.see("restore " + slot, Check.done(() -> grader.restore(restored)));
            picture.state();
        }
        return picture.seen.toString();
    }

    private void see(String what, Check.Call call) {
        seen.append(what).append(' ').append(Check.told(call)).append("; ");
    }

    /** Its length by an append that is taken back, its content (if it is a name) by a find. */
    private void buffer() {
        String longer = Check.told(() -> grader.append(0, 0, 0, 0, 0));
        see("buffer and 20", () -> longer);
        if (!longer.startsWith("throws")) {
            grader.truncate(Integer.parseInt(longer) - 20);
            see("buffer", () -> grader.find(1));
        }
    }

    /** Also that there is nothing behind the last chart and the last rows. */
    private void charts() {
        int charts = grader.count(2);
        for (int chart = 0; chart <= charts; chart++) {
            int one = chart;
            int rows = chart < charts ? grader.chart(chart, 0) : 0;
            see("chart", () -> grader.chart(one, 1));
            see("makes at most", () -> grader.chart(one, 2));
            for (int row = 0; row <= rows; row++) {
                int ofRow = row;
                see("takes", () -> grader.chartRow(one, ofRow, false));
                see("makes", () -> grader.chartRow(one, ofRow, true));
            }
        }
    }

    /** Also that there is nothing behind the last piece and the last parts. */
    private void parts() {
        int pieces = grader.count(3);
        for (int piece = 0; piece <= pieces; piece++) {
            int one = piece;
            int parts = piece < pieces ? grader.parts(piece) : 0;
            for (int part = 0; part < parts; part++) {
                for (int what = 0; what < 9; what++) {
                    int ofPart = part;
                    int asked = what;
                    see("part", () -> grader.part(one, ofPart, asked));
                }
            }
            see("no part", () -> grader.part(one, parts, 0));
            see("no rows", () -> grader.rows(0, one));
        }
    }

    private void state() {
        for (int what = 0; what <= 8; what++) {
            int asked = what;
            see("count " + what, () -> grader.count(asked));
        }
        int sizes = grader.count(0);
        int measures = grader.count(1);
        int pieces = grader.count(3);
        int lots = grader.count(4);
        for (int i = 0; i < measures * sizes; i++) {
            int at = i;
            see("value", () -> grader.value(at / sizes, at % sizes));
        }
        for (int i = 0; i < 2 * lots; i++) {
            int at = i;
            see("lot", () -> grader.lot(at / 2, at % 2));
        }
        for (int i = 0; i < pieces * sizes; i++) {
            int at = i;
            see("rows", () -> grader.rows(at % sizes, at / sizes));
            see("failure", () -> grader.failure(at % sizes, at / sizes));
        }
        eases(pieces);
        see("possible", grader::possible);
    }

    private void eases(int pieces) {
        for (int piece = 0; piece < pieces; piece++) {
            int parts = grader.parts(piece);
            for (int part = 0; part < parts; part++) {
                int ofPiece = piece;
                int ofPart = part;
                see("ease", () -> grader.part(ofPiece, ofPart, 3));
            }
        }
    }
}
