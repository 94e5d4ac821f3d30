/** The sentences of the chapters GENERAL and CHARTS that name an edge, and those of promises 8 to 15, one by one. */
public final class EdgesOfTablesTest {
    private static final String HEAD = "gauge 20 30 yarn 10;sizes s m;";
    private static final String TEXT = "gauge 5 99 yarn 17;sizes xs s m;measure hip 400 450 500;measure odd 3000 200 0;chart lace kyt kkk;chart one p;"
        + "piece back;cast hip plus 999 by 30 and 29 color 3;work odd color 2 chart one;shape hip minus 999 by 7 over odd per 4 color 1;work hip color 0;end;"
        + "piece tie;cast odd color 1;end;lot 2 9999;lot 1 1;";
    /** Numbers that are no number of anything; the last ones would be by a wrap-around of a product. */
    private static final int[] NOWHERE = {-1, Integer.MIN_VALUE, Integer.MAX_VALUE, 1 << 30, -(1 << 30), 1 << 29, 1 << 28};

    private EdgesOfTablesTest() {
    }

    public static void main(String[] args) {
        sizesAreNumbered();
        measuresAreNumbered();
        chartsAreNumbered();
        piecesAreNumbered();
        partsAreNumbered();
        lotsAreNumbered();
        objectOf512Calls();
        letters();
        sumsOfRows();
        widthOfChart();
        rowsOfNothing();
        counts();
        countOutside();
        value();
        valueOutside();
        graded();
        gradedOutside();
        fits();
        fitsLowest();
        millimeters();
        fitsOutside();
        chartFacts();
        chartOutside();
        chartRows();
        chartRowOutside();
        kinds();
        factsOfParts();
        easeOfPart();
        partOutside();
        parts();
        partsOutside();
        Check.end("EdgesOfTablesTest");
    }

    private static KnitGrader text() {
        KnitGrader g = Check.loaded(TEXT);
        g.setValue(0, 1, 451);
        g.save(0);
        g.addLot(3, 3);
        Check.write(g, "odd");
        return g;
    }

    private static void outside(String what, Check.CallOf call) {
        Check.refused(what, Check.RANGE, EdgesOfTablesTest::text, call);
    }

    private static void wrong(String what, Check.CallOf call) {
        Check.refused(what, Check.ARGUMENT, EdgesOfTablesTest::text, call);
    }

    private static void sizesAreNumbered() {
        Check.sentence("Sizes are numbered from 0 in the order of the text.");
        KnitGrader g = Check.loaded("gauge 20 30 yarn 10;sizes f e d c b a;measure x 6 5 4 3 2 1;piece p;cast x color 0;end;");
        for (int size = 0; size < 6; size++) {
            int one = size;
            Check.due("value of size " + size, () -> g.value(0, one), 6 - size);
            Check.write(g, String.valueOf((char) ('f' - size)));
            Check.due("find size " + size, () -> g.find(0), size);
        }
        Check.due("the last size", () -> g.failure(5, 0), 0);
        Check.range("size 6", () -> g.failure(6, 0));
        Check.range("size -1", () -> g.failure(-1, 0));
    }

    private static void measuresAreNumbered() {
        Check.sentence("Measures are numbered from 0 in the order of the text.");
        KnitGrader g = Check.loaded("gauge 20 30 yarn 10;sizes s;measure h 8;measure g 7;measure f 6;measure e 5;measure d 4;measure c 3;measure b 2;measure a 1;");
        for (int measure = 0; measure < 8; measure++) {
            int one = measure;
            Check.due("value of measure " + measure, () -> g.value(one, 0), 8 - measure);
        }
        Check.range("measure 8", () -> g.value(8, 0));
        Check.range("measure -1", () -> g.value(-1, 0));
    }

    private static void chartsAreNumbered() {
        Check.sentence("Charts are numbered from 0 in the order of the text.");
        KnitGrader g = Check.loaded(HEAD + "chart d kkkk;chart c kkk;chart b kk;chart a k;");
        for (int chart = 0; chart < 4; chart++) {
            int one = chart;
            Check.due("width of chart " + chart, () -> g.chart(one, 1), 4 - chart);
        }
        Check.range("chart 4", () -> g.chart(4, 1));
        Check.range("chart -1", () -> g.chart(-1, 1));
    }

    private static void piecesAreNumbered() {
        Check.sentence("Pieces are numbered from 0 in the order of the text.");
        StringBuilder t = new StringBuilder("gauge 10 30 yarn 10;sizes s;");
        for (int i = 0; i < 6; i++) {
            t.append("measure m").append((char) ('a' + i)).append(' ').append(60 - 10 * i).append(';');
        }
        for (int i = 0; i < 6; i++) {
            t.append("piece ").append((char) ('f' - i)).append(";cast m").append((char) ('a' + i)).append(" color 0;end;");
        }
        KnitGrader g = Check.loaded(t.toString());
        for (int piece = 0; piece < 6; piece++) {
            int one = piece;
            Check.due("stitches of piece " + piece, () -> g.stitches(0, one, 0), 6 - piece);
        }
        Check.range("piece 6", () -> g.stitches(0, 6, 0));
        Check.range("piece -1", () -> g.stitches(0, -1, 0));
    }

    private static void partsAreNumbered() {
        Check.sentence("Parts of a piece are numbered from 0 in the order of the text.");
        KnitGrader g = Check.loaded(HEAD + "measure hip 1 2;piece p;cast hip color 3;work hip color 2;work hip color 1;end;piece q;cast hip color 0;end;");
        for (int part = 0; part < 3; part++) {
            int one = part;
            Check.due("color of part " + part, () -> g.part(0, one, 1), 3 - part);
        }
        Check.range("part 3", () -> g.part(0, 3, 1));
        Check.range("part -1", () -> g.part(0, -1, 1));
        Check.range("part -1 of the second piece", () -> g.part(1, -1, 1));
        Check.range("part 10 of the first piece", () -> g.part(0, 10, 1));
    }

    private static void lotsAreNumbered() {
        Check.sentence("Lots are numbered from 0 in the order of the text.");
        StringBuilder t = new StringBuilder(HEAD);
        for (int i = 0; i < 10; i++) {
            t.append("lot ").append(i % 4).append(' ').append(100 - i).append(';');
        }
        KnitGrader g = Check.loaded(t.toString());
        for (int lot = 0; lot < 10; lot++) {
            int one = lot;
            Check.due("meters of lot " + lot, () -> g.lot(one, 1), 100 - lot);
        }
        Check.range("lot 10", () -> g.lot(10, 1));
        Check.range("lot -1", () -> g.lot(-1, 1));
    }

    private static void objectOf512Calls() {
        Check.sentence("An object is used for at most 512 calls after it has been made");
        KnitGrader g = new KnitGrader();
        for (int call = 0; call < 503; call++) {
            g.setValue(0, 0, call);
        }
        for (int call = 503; call < 511; call++) {
            g.undo();
        }
        Check.due("the 512th call", () -> g.value(0, 0), 494);
        KnitGrader other = new KnitGrader();
        for (int call = 0; call < 510; call++) {
            Check.told(() -> other.dealt(5, 5, 5));
        }
        Check.due("the 511th call", other::possible, 3);
        Check.due("the 512th call", () -> other.dealt(0, 0, 0), 0);
    }

    private static void letters() {
        Check.sentence("k and p take one stitch and make one; y takes none and makes one; t takes two and makes one; s takes three and makes one.");
        KnitGrader k = Check.loaded(HEAD + "chart k k;chart p p;chart y ky t;chart s s kyy;");
        int[][] rows = {{0, 0, 1, 1}, {1, 0, 1, 1}, {2, 0, 1, 2}, {2, 1, 2, 1}, {3, 0, 3, 1}, {3, 1, 1, 3}};
        for (int[] row : rows) {
            Check.due("chart " + row[0] + " row " + row[1] + " takes", () -> k.chartRow(row[0], row[1], false), row[2]);
            Check.due("chart " + row[0] + " row " + row[1] + " makes", () -> k.chartRow(row[0], row[1], true), row[3]);
        }
    }

    private static void sumsOfRows() {
        Check.sentence("A row of a chart takes and makes the sums over its letters");
        KnitGrader g = Check.loaded(HEAD + "chart a kpytskpyykyy ttkkpkkkpk;");
        Check.due("12 letters of all kinds take", () -> g.chartRow(0, 0, false), 10);
        Check.due("12 letters of all kinds make", () -> g.chartRow(0, 0, true), 12);
        Check.due("10 letters take", () -> g.chartRow(0, 1, false), 12);
        Check.due("10 letters make", () -> g.chartRow(0, 1, true), 10);
    }

    private static void widthOfChart() {
        Check.sentence("the width of a chart is what its first row takes");
        KnitGrader g = Check.loaded(HEAD + "chart a ssss kyykyykyykyy;chart b kyyyyyyyyyyy ssss tt t;");
        Check.due("more than it makes", () -> g.chart(0, 1), 12);
        Check.due("less than it makes", () -> g.chart(1, 1), 1);
    }

    /** Each letter makes a stitch, so that the last row cannot make the 0 stitches which a first row of y takes. */
    private static void rowsOfNothing() {
        Check.sentence("A row can take or make 0 stitches; a chart with the width 0 cannot be worked.");
        Check.faultAt(6, HEAD + "chart a y^;");
        Check.faultAt(6, HEAD + "chart a yyyyyyyyyyyy ssss tt t^;");
        Check.faultAt(6, HEAD + "chart a k ^y;");
    }

    private static void counts() {
        Check.sentence("0 sizes, 1 measures, 2 charts, 3 pieces, 4 lots, 5 stitches of the gauge, 6 rows of the gauge, 7 millimeters of yarn for a stitch, 8 changes that can be undone");
        KnitGrader g = Check.loaded(TEXT);
        int[] due = {3, 2, 2, 2, 2, 5, 99, 17, 0};
        for (int what = 0; what < 9; what++) {
            int asked = what;
            Check.due("count(" + what + ")", () -> g.count(asked), due[what]);
        }
        KnitGrader least = Check.loaded("gauge 6 7 yarn 8;sizes s;");
        int[] leasts = {1, 0, 0, 0, 0, 6, 7, 8, 0};
        for (int what = 0; what < 9; what++) {
            int asked = what;
            Check.due("least count(" + what + ")", () -> least.count(asked), leasts[what]);
        }
        g.setGauge(44, 55, 66);
        g.addLot(0, 1);
        g.removeLot(0);
        g.removeLot(0);
        int[] changed = {3, 2, 2, 2, 1, 44, 55, 66, 4};
        for (int what = 0; what < 9; what++) {
            int asked = what;
            Check.due("changed count(" + what + ")", () -> g.count(asked), changed[what]);
        }
        g.undo();
        Check.due("count(8) behind an undo", () -> g.count(8), 3);
        Check.due("count(4) behind an undo", () -> g.count(4), 2);
    }

    private static void countOutside() {
        Check.sentence("count: Throws IllegalArgumentException if what is out of range");
        for (int what : new int[] {-1, 9, 10, Integer.MIN_VALUE, Integer.MAX_VALUE}) {
            wrong("count(" + what + ")", g -> g.count(what));
        }
    }

    private static void value() {
        Check.sentence("Returns a value of the table.");
        StringBuilder t = new StringBuilder("gauge 20 30 yarn 10;sizes a b c d e f;");
        for (int i = 0; i < 48; i++) {
            t.append(i % 6 == 0 ? "measure m" + (char) ('a' + i / 6) : "").append(' ').append(i * 63).append(i % 6 == 5 ? ";" : "");
        }
        KnitGrader g = Check.loaded(t.toString());
        for (int i = 0; i < 48; i++) {
            int at = i;
            Check.due("value(" + i / 6 + ", " + i % 6 + ")", () -> g.value(at / 6, at % 6), i * 63);
        }
    }

    private static void valueOutside() {
        Check.sentence("value: Throws IndexOutOfBoundsException if there is no such measure or size");
        outside("value(2, 0)", g -> g.value(2, 0));
        outside("value(0, 3)", g -> g.value(0, 3));
        outside("value(2, 3)", g -> g.value(2, 3));
        outside("value(1, -1)", g -> g.value(1, -1));
        outside("value(1, -6)", g -> g.value(1, -6));
        outside("value(0, 6)", g -> g.value(0, 6));
        for (int number : NOWHERE) {
            outside("value(" + number + ", 0)", g -> g.value(number, 0));
            outside("value(0, " + number + ")", g -> g.value(0, number));
        }
        KnitGrader none = Check.loaded("gauge 20 30 yarn 10;sizes s;");
        Check.range("there is no measure", () -> none.value(0, 0));
    }

    private static void graded() {
        Check.sentence("Tells whether a measure never becomes smaller from a size to the next one.");
        KnitGrader g = Check.loaded("gauge 20 30 yarn 10;sizes a b c d e f;measure q 5 5 5 5 5 5;measure r 0 1 2 3 4 3000;measure s 6 5 6 7 8 9;measure t 1 2 3 4 5 4;"
            + "measure u 1 2 3 2 3 4;measure v 6 5 4 3 2 1;measure w 0 0 0 0 0 3000;measure x 1 0 0 0 0 0;");
        boolean[] due = {true, true, false, false, false, false, true, false};
        for (int measure = 0; measure < 8; measure++) {
            int one = measure;
            Check.due("isGraded(" + measure + ")", () -> g.isGraded(one), due[measure]);
        }
        KnitGrader one = Check.loaded("gauge 20 30 yarn 10;sizes a;measure q 5;measure r 0;");
        Check.due("one size", () -> one.isGraded(0), true);
        Check.due("one size smaller than the measure before", () -> one.isGraded(1), true);
        KnitGrader two = Check.loaded(HEAD + "measure q 5 5;measure r 5 4;measure s 5 6;");
        Check.due("two sizes alike", () -> two.isGraded(0), true);
        Check.due("the second one less", () -> two.isGraded(1), false);
        Check.due("the second one more", () -> two.isGraded(2), true);
    }

    private static void gradedOutside() {
        Check.sentence("isGraded: Throws IndexOutOfBoundsException if there is no such measure");
        outside("isGraded(2)", g -> g.isGraded(2));
        for (int number : NOWHERE) {
            outside("isGraded(" + number + ")", g -> g.isGraded(number));
        }
        KnitGrader none = Check.loaded("gauge 20 30 yarn 10;sizes s;");
        Check.range("there is no measure", () -> none.isGraded(0));
    }

    private static void fits() {
        Check.sentence("Returns the size whose value of a measure is nearest to a number.");
        KnitGrader g = Check.loaded("gauge 20 30 yarn 10;sizes a b c;measure up 100 200 301;measure down 300 200 99;measure ends 0 3000 1;");
        int[][] due = {{0, 0, 0}, {0, 149, 0}, {0, 151, 1}, {0, 250, 1}, {0, 251, 2}, {0, 3000, 2}, {1, 3000, 0}, {1, 251, 0}, {1, 249, 1}, {1, 150, 1}, {1, 149, 2},
            {1, 0, 2}, {2, 0, 0}, {2, 1, 2}, {2, 3000, 1}, {2, 1501, 1}, {2, 1500, 2}};
        for (int[] one : due) {
            Check.due("fits(" + one[0] + ", " + one[1] + ")", () -> g.fits(one[0], one[1]), one[2]);
        }
    }

    private static void fitsLowest() {
        Check.sentence("Returns the number of the size, of several the lowest.");
        KnitGrader g = Check.loaded("gauge 20 30 yarn 10;sizes a b c;measure up 100 200 300;measure down 300 200 100;measure same 7 7 7;measure later 9 7 7;");
        int[][] due = {{0, 150, 0}, {0, 250, 1}, {1, 250, 0}, {1, 150, 1}, {2, 7, 0}, {2, 0, 0}, {2, 3000, 0}, {3, 7, 1}, {3, 8, 0}, {3, 0, 1}};
        for (int[] one : due) {
            Check.due("fits(" + one[0] + ", " + one[1] + ")", () -> g.fits(one[0], one[1]), one[2]);
        }
    }

    private static void millimeters() {
        Check.sentence("millimeters: 0 to 3000 / Throws IllegalArgumentException if millimeters is out of range");
        Check.due("0", () -> text().fits(0, 0), 0);
        Check.due("3000", () -> text().fits(0, 3000), 2);
        for (int number : new int[] {-1, 3001, Integer.MIN_VALUE, Integer.MAX_VALUE}) {
            wrong("fits(0, " + number + ")", g -> g.fits(0, number));
        }
    }

    private static void fitsOutside() {
        Check.sentence("fits: Throws IndexOutOfBoundsException if there is no such measure");
        outside("fits(2, 0)", g -> g.fits(2, 0));
        outside("also with millimeters out of range", g -> g.fits(2, -1));
        outside("also with too many millimeters", g -> g.fits(-1, 3001));
        for (int number : NOWHERE) {
            outside("fits(" + number + ", 0)", g -> g.fits(number, 0));
        }
    }

    private static void chartFacts() {
        Check.sentence("0 number of rows, 1 width, 2 the greatest number of stitches that a row makes");
        KnitGrader g = Check.loaded(HEAD + "chart a k;chart b p p p p p p p p;chart c kyyyyyyyyyyy ssss tt t;chart d sss kkk kyykyykyy;");
        int[][] due = {{1, 1, 1}, {8, 1, 1}, {4, 1, 12}, {3, 9, 9}};
        for (int i = 0; i < 12; i++) {
            int at = i;
            Check.due("chart(" + i / 3 + ", " + i % 3 + ")", () -> g.chart(at / 3, at % 3), due[i / 3][i % 3]);
        }
        KnitGrader places = Check.loaded(HEAD + "chart a kky kt;chart b kt kky;chart c kk kky kt;");
        Check.due("the first row makes most", () -> places.chart(0, 2), 3);
        Check.due("the last row makes most", () -> places.chart(1, 2), 3);
        Check.due("a row between makes most", () -> places.chart(2, 2), 3);
    }

    private static void chartOutside() {
        Check.sentence("chart: Throws IndexOutOfBoundsException if there is no such chart / IllegalArgumentException if what is out of range");
        outside("chart(2, 0)", g -> g.chart(2, 0));
        outside("also with what out of range", g -> g.chart(2, 3));
        for (int number : NOWHERE) {
            outside("chart(" + number + ", 0)", g -> g.chart(number, 0));
        }
        for (int what : new int[] {-1, 3, Integer.MIN_VALUE, Integer.MAX_VALUE}) {
            wrong("chart(1, " + what + ")", g -> g.chart(1, what));
        }
        KnitGrader none = new KnitGrader();
        Check.range("there is no chart", () -> none.chart(0, 0));
    }

    private static void chartRows() {
        Check.sentence("Returns what a row of a chart takes or makes.");
        KnitGrader g = Check.loaded(HEAD + "chart a k yk ykk ykkk kkkk tkk tk t;chart b kp;");
        int[][] due = {{1, 1}, {1, 2}, {2, 3}, {3, 4}, {4, 4}, {4, 3}, {3, 2}, {2, 1}};
        for (int row = 0; row < 8; row++) {
            int one = row;
            Check.due("row " + row + " takes", () -> g.chartRow(0, one, false), due[row][0]);
            Check.due("row " + row + " makes", () -> g.chartRow(0, one, true), due[row][1]);
        }
        Check.due("row of the next chart", () -> g.chartRow(1, 0, false), 2);
    }

    private static void chartRowOutside() {
        Check.sentence("chartRow: Throws IndexOutOfBoundsException if there is no such chart or row");
        outside("chartRow(2, 0, true)", g -> g.chartRow(2, 0, true));
        outside("chartRow(0, 2, true)", g -> g.chartRow(0, 2, true));
        outside("chartRow(1, 1, false)", g -> g.chartRow(1, 1, false));
        outside("chartRow(0, 8, false)", g -> g.chartRow(0, 8, false));
        outside("chartRow(1, -1, false)", g -> g.chartRow(1, -1, false));
        outside("chartRow(1, -8, true)", g -> g.chartRow(1, -8, true));
        for (int number : NOWHERE) {
            outside("chartRow(" + number + ", 0, true)", g -> g.chartRow(number, 0, true));
            outside("chartRow(0, " + number + ", false)", g -> g.chartRow(0, number, false));
        }
        KnitGrader g = Check.loaded(HEAD + "chart a k k k k k k k k;");
        Check.due("the eighth row", () -> g.chartRow(0, 7, true), 1);
        Check.range("no ninth row", () -> g.chartRow(0, 8, true));
    }

    private static void kinds() {
        Check.sentence("0 its kind (0 cast, 1 work, 2 shape)");
        KnitGrader g = Check.loaded(TEXT);
        int[] due = {0, 1, 2, 1};
        for (int part = 0; part < 4; part++) {
            int one = part;
            Check.due("kind of part " + part, () -> g.part(0, one, 0), due[part]);
        }
    }

    private static void factsOfParts() {
        Check.sentence("1 its color, 2 the measure of its width (NONE for work), 3 the ease (below 0 with minus), 4 the multiple, 5 the remainder (3 to 5: 0 for work), "
            + "6 the measure of its length (NONE for cast), 7 per (0 without it), 8 the chart (NONE without one)");
        KnitGrader g = Check.loaded(TEXT);
        int[][] due = {{3, 0, 999, 30, 29, -1, 0, -1}, {2, -1, 0, 0, 0, 1, 0, 1}, {1, 0, -999, 7, 0, 1, 4, -1}, {0, -1, 0, 0, 0, 0, 0, -1}};
        for (int i = 0; i < 32; i++) {
            int at = i;
            Check.due("part(0, " + i / 8 + ", " + (i % 8 + 1) + ")", () -> g.part(0, at / 8, at % 8 + 1), due[i / 8][i % 8]);
        }
        int[] tie = {1, 1, 0, 1, 0, -1, 0, -1};
        for (int what = 1; what < 9; what++) {
            int asked = what;
            Check.due("part(1, 0, " + what + ")", () -> g.part(1, 0, asked), tie[what - 1]);
        }
    }

    private static void easeOfPart() {
        Check.sentence("3 the ease (below 0 with minus); a state is all that the text tells, as it is now");
        KnitGrader g = Check.loaded(TEXT);
        for (int ease : new int[] {-999, -1, 0, 1, 999}) {
            g.setEase(0, 0, ease);
            Check.due("the ease now", () -> g.part(0, 0, 3), ease);
            Check.due("the ease of another part", () -> g.part(0, 2, 3), -999);
            Check.due("the multiple beside it", () -> g.part(0, 0, 4), 30);
        }
        g.undo();
        Check.due("the ease behind an undo", () -> g.part(0, 0, 3), 1);
    }

    private static void partOutside() {
        Check.sentence("part: Throws IndexOutOfBoundsException if there is no such piece or part / IllegalArgumentException if what is out of range");
        outside("part(2, 0, 0)", g -> g.part(2, 0, 0));
        outside("part(0, 4, 0)", g -> g.part(0, 4, 0));
        outside("part(1, 1, 0)", g -> g.part(1, 1, 0));
        outside("part(1, -1, 0)", g -> g.part(1, -1, 0));
        outside("part(0, 10, 0)", g -> g.part(0, 10, 0));
        outside("no piece, also with what out of range", g -> g.part(2, 0, 9));
        outside("no part, also with what out of range", g -> g.part(0, 4, -1));
        for (int number : NOWHERE) {
            outside("part(" + number + ", 0, 0)", g -> g.part(number, 0, 0));
            outside("part(0, " + number + ", 0)", g -> g.part(0, number, 0));
        }
        for (int what : new int[] {-1, 9, Integer.MIN_VALUE, Integer.MAX_VALUE}) {
            wrong("part(0, 0, " + what + ")", g -> g.part(0, 0, what));
            wrong("part(1, 0, " + what + ")", g -> g.part(1, 0, what));
        }
    }

    private static void parts() {
        Check.sentence("Returns the number of parts of a piece.");
        KnitGrader g = Check.loaded(HEAD + "measure hip 1 2;piece a;cast hip color 0;end;piece b;cast hip color 0;work hip color 0;end;piece c;cast hip color 0;"
            + "work hip color 0;".repeat(9) + "end;");
        int[] due = {1, 2, 10};
        for (int piece = 0; piece < 3; piece++) {
            int one = piece;
            Check.due("parts(" + piece + ")", () -> g.parts(one), due[piece]);
        }
    }

    private static void partsOutside() {
        Check.sentence("parts: Throws IndexOutOfBoundsException if there is no such piece");
        outside("parts(2)", g -> g.parts(2));
        for (int number : NOWHERE) {
            outside("parts(" + number + ")", g -> g.parts(number));
        }
        KnitGrader none = Check.loaded("gauge 20 30 yarn 10;sizes s;");
        Check.range("there is no piece", () -> none.parts(0));
    }
}
