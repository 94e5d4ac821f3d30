/** Promises 8 to 15: what the text tells of tables, charts and pieces. */
public final class TableTest {
    private static final String TEXT = "gauge 21 33 yarn 17;sizes xs s m l;measure hip 400 450 450 500;measure odd 300 200 250 250;"
        + "measure zero 0 0 0 3000;chart lace kyt kkk;chart fan kyy s;chart one p;piece back;cast hip plus 999 by 30 and 29 color 3;"
        + "work odd color 2 chart fan;shape hip minus 999 by 7 over zero per 4 color 1;work zero color 0;end;"
        + "piece tie;cast odd color 1;end;lot 2 9999;lot 1 1;";

    private TableTest() {
    }

    public static void main(String[] args) {
        count();
        value();
        isGraded();
        fits();
        chart();
        chartRow();
        part();
        parts();
        Check.end("TableTest");
    }

    private static void count() {
        KnitGrader g = Check.loaded(TEXT);
        int[] counts = {4, 3, 3, 2, 2, 21, 33, 17, 0};
        for (int what = 0; what < counts.length; what++) {
            int asked = what;
            Check.due("count(" + what + ")", () -> g.count(asked), counts[what]);
        }
        g.addLot(0, 1);
        g.addLot(0, 1);
        Check.due("count of lots after two more", () -> g.count(4), 4);
        Check.due("count of changes after two", () -> g.count(8), 2);
        Check.argument("count(-1)", () -> g.count(-1));
        Check.argument("count(9)", () -> g.count(9));
        Check.argument("count of the least number", () -> g.count(Integer.MIN_VALUE));
    }

    private static void value() {
        KnitGrader g = Check.loaded(TEXT);
        int[][] values = {{400, 450, 450, 500}, {300, 200, 250, 250}, {0, 0, 0, 3000}};
        for (int i = 0; i < 12; i++) {
            int m = i / 4;
            int s = i % 4;
            Check.due("value(" + m + ", " + s + ")", () -> g.value(m, s), values[m][s]);
        }
        Check.range("value(3, 0)", () -> g.value(3, 0));
        Check.range("value(-1, 0)", () -> g.value(-1, 0));
        Check.range("value(0, 4)", () -> g.value(0, 4));
        Check.range("value(0, -1)", () -> g.value(0, -1));
        Check.range("value(1, -4)", () -> g.value(1, -4));
    }

    private static void isGraded() {
        KnitGrader g = Check.loaded(TEXT);
        Check.due("equal values do not become smaller", () -> g.isGraded(0), true);
        Check.due("smaller at once", () -> g.isGraded(1), false);
        Check.due("greater at the end", () -> g.isGraded(2), true);
        g.setValue(2, 2, 5);
        g.setValue(2, 3, 4);
        Check.due("smaller at the end", () -> g.isGraded(2), false);
        Check.range("isGraded(3)", () -> g.isGraded(3));
        Check.range("isGraded(-1)", () -> g.isGraded(-1));
        KnitGrader alone = Check.loaded("gauge 20 30 yarn 10;sizes s;measure a 5;");
        Check.due("one size", () -> alone.isGraded(0), true);
    }

    private static void fits() {
        KnitGrader g = Check.loaded(TEXT);
        int[][] due = {{0, 0}, {400, 0}, {425, 0}, {426, 1}, {450, 1}, {475, 1}, {476, 3}, {500, 3}, {3000, 3}};
        for (int[] one : due) {
            Check.due("fits(0, " + one[0] + ")", () -> g.fits(0, one[0]), one[1]);
        }
        int[][] odd = {{0, 1}, {225, 1}, {226, 2}, {275, 0}, {274, 2}, {276, 0}, {3000, 0}};
        for (int[] one : odd) {
            Check.due("fits(1, " + one[0] + ")", () -> g.fits(1, one[0]), one[1]);
        }
        Check.due("fits(2, 1501)", () -> g.fits(2, 1501), 3);
        Check.due("fits(2, 1500)", () -> g.fits(2, 1500), 0);
        Check.argument("fits(0, -1)", () -> g.fits(0, -1));
        Check.argument("fits(0, 3001)", () -> g.fits(0, 3001));
        Check.range("fits(3, 5)", () -> g.fits(3, 5));
        Check.range("fits(-1, 5)", () -> g.fits(-1, 5));
        Check.range("no measure comes before the millimeters", () -> g.fits(3, -1));
    }

    private static void chart() {
        KnitGrader g = Check.loaded(TEXT);
        int[][] due = {{2, 3, 3}, {2, 1, 3}, {1, 1, 1}};
        for (int i = 0; i < 9; i++) {
            int c = i / 3;
            int what = i % 3;
            Check.due("chart(" + c + ", " + what + ")", () -> g.chart(c, what), due[c][what]);
        }
        Check.argument("chart(0, 3)", () -> g.chart(0, 3));
        Check.argument("chart(0, -1)", () -> g.chart(0, -1));
        Check.range("chart(3, 0)", () -> g.chart(3, 0));
        Check.range("chart(-1, 0)", () -> g.chart(-1, 0));
        Check.range("no chart comes before what", () -> g.chart(3, 3));
        KnitGrader wide = Check.loaded("gauge 20 30 yarn 10;sizes s;chart a kyyyyyyyyyyy ssss tt t;");
        int[] shape = {4, 1, 12};
        for (int what = 0; what < 3; what++) {
            int asked = what;
            Check.due("wide chart " + what, () -> wide.chart(0, asked), shape[what]);
        }
    }

    private static void chartRow() {
        KnitGrader g = Check.loaded("gauge 20 30 yarn 10;sizes s;chart x p;chart a kpyts kkkkk ttk yyyykkk;");
        int[][] due = {{7, 5}, {5, 5}, {5, 3}, {3, 7}};
        for (int i = 0; i < 4; i++) {
            int row = i;
            Check.due("row " + row + " takes", () -> g.chartRow(1, row, false), due[row][0]);
            Check.due("row " + row + " makes", () -> g.chartRow(1, row, true), due[row][1]);
        }
        Check.range("chartRow(1, 4, true)", () -> g.chartRow(1, 4, true));
        Check.range("chartRow(1, -1, true)", () -> g.chartRow(1, -1, true));
        Check.range("chartRow(0, 1, false)", () -> g.chartRow(0, 1, false));
        Check.range("chartRow(2, 0, false)", () -> g.chartRow(2, 0, false));
        Check.range("chartRow(-1, 0, false)", () -> g.chartRow(-1, 0, false));
    }

    private static void part() {
        KnitGrader g = Check.loaded(TEXT);
        int[][] due = {{0, 3, 0, 999, 30, 29, -1, 0, -1}, {1, 2, -1, 0, 0, 0, 1, 0, 1}, {2, 1, 0, -999, 7, 0, 2, 4, -1},
            {1, 0, -1, 0, 0, 0, 2, 0, -1}};
        for (int i = 0; i < 36; i++) {
            int p = i / 9;
            int what = i % 9;
            Check.due("part(0, " + p + ", " + what + ")", () -> g.part(0, p, what), due[p][what]);
        }
        int[] tie = {0, 1, 1, 0, 1, 0, -1, 0, -1};
        for (int what = 0; what < 9; what++) {
            int asked = what;
            Check.due("part(1, 0, " + what + ")", () -> g.part(1, 0, asked), tie[what]);
        }
        g.setEase(0, 0, -5);
        Check.due("the ease as it is now", () -> g.part(0, 0, 3), -5);
        Check.argument("part(0, 0, 9)", () -> g.part(0, 0, 9));
        Check.argument("part(0, 0, -1)", () -> g.part(0, 0, -1));
        Check.range("part(0, 4, 0)", () -> g.part(0, 4, 0));
        Check.range("part(0, -1, 0)", () -> g.part(0, -1, 0));
        Check.range("part(1, 1, 0)", () -> g.part(1, 1, 0));
        Check.range("part(2, 0, 0)", () -> g.part(2, 0, 0));
        Check.range("part(-1, 0, 0)", () -> g.part(-1, 0, 0));
        Check.range("no part comes before what", () -> g.part(1, 1, 9));
    }

    private static void parts() {
        KnitGrader g = Check.loaded(TEXT);
        Check.due("parts(0)", () -> g.parts(0), 4);
        Check.due("parts(1)", () -> g.parts(1), 1);
        Check.range("parts(2)", () -> g.parts(2));
        Check.range("parts(-1)", () -> g.parts(-1));
    }
}
