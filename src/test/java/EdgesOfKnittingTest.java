/** The sentences of the chapters COUNTS and KNITTING that name an edge, and those of promises 16 to 24, one by one. */
public final class EdgesOfKnittingTest {
    /** With this gauge 10 millimeters are a stitch, and a row. */
    private static final String TEN = "gauge 10 10 yarn 1;sizes s;";
    private static final String CHARTS = "chart one k;chart two kyy s;chart wide kyt kkk kkk;chart eight k yk kk kk t k p k;";
    /** Size s fails with part 2 of the second piece, size m with none. */
    private static final String TEXT = "gauge 10 10 yarn 1;sizes s m;measure a 100 120;measure b 60 90;measure c 20 30;measure z 0 0;chart x kyt kkk;"
        + "piece p;cast a color 0;shape b over a per 1 color 1;work c color 2;end;"
        + "piece q;cast b color 0;work c color 1;shape a over a per 1 color 1;work a color 2 chart x;end;lot 0 9;";
    private static final int[] NOWHERE = {-1, Integer.MIN_VALUE, Integer.MAX_VALUE, 1 << 30, -(1 << 30), 1 << 28};

    private EdgesOfKnittingTest() {
    }

    public static void main(String[] args) {
        widthAtLeast0();
        widthToStitches();
        nearestCount();
        countsFrom1();
        greaterOfTwoCounts();
        lengthToRows();
        rowsByChart();
        castInOneRow();
        workLeavesStitches();
        chartNeedsMultiple();
        chartRowsInTurn();
        shapingRows();
        noDifference();
        rowsOfShapings();
        stepsOfShapings();
        reason1();
        reason2();
        reason3();
        firstReason();
        firstPart();
        rowsBeforeAFailure();
        rowsAreNumbered();
        failure();
        rows();
        partRows();
        partRowsOfAFailure();
        stitches();
        rowsOutside();
        partAt();
        extremes();
        pieceAfterPiece();
        shaping();
        shapingOfAFailure();
        shapingMissing();
        width();
        mean();
        placesOutside();
        partsOutside();
        Check.end("EdgesOfKnittingTest");
    }

    private static void count(int gauge, int value, String width, int due) {
        KnitGrader g = Check.loaded("gauge " + gauge + " 10 yarn 1;sizes s;measure a " + value + ";piece p;cast a " + width + " color 0;end;");
        Check.due(value + " mm " + width + " at " + gauge, () -> g.stitches(0, 0, 0), due);
    }

    private static void widthAtLeast0() {
        Check.sentence("let w be the value of the measure plus or minus the ease, at least 0");
        count(10, 100, "plus 0", 10);
        count(10, 100, "plus 10", 11);
        count(10, 100, "minus 10", 9);
        count(10, 3000, "plus 999", 400);
        count(10, 20, "minus 10 by 7 and 3", 3);
        count(10, 10, "minus 10 by 7 and 3", 3);
        count(10, 10, "minus 11 by 7 and 3", 3);
        count(99, 0, "minus 999", 1);
        count(99, 0, "minus 999 by 30", 30);
        count(99, 0, "minus 999 by 30 and 1", 1);
        count(99, 0, "minus 999 by 30 and 29", 29);
        count(99, 998, "minus 999 by 2 and 1", 1);
        KnitGrader g = Check.loaded(TEXT);
        g.setEase(0, 0, -999);
        Check.due("an ease that is set", () -> g.stitches(0, 0, 0), 1);
        g.setEase(0, 0, 999);
        Check.due("the greatest ease that is set", () -> g.stitches(1, 0, 0), 112);
    }

    private static void widthToStitches() {
        Check.sentence("s be floor((w * stitches of the gauge + 50) / 100)");
        count(83, 3, "", 2);
        count(50, 5, "", 3);
        count(50, 3, "", 2);
        count(49, 3, "", 1);
        count(5, 29, "", 1);
        count(5, 30, "", 2);
        count(5, 3000, "", 150);
        count(99, 3000, "", 2970);
        count(99, 3000, "plus 999", 3959);
        count(99, 2999, "", 2969);
        count(10, 95, "", 10);
        count(10, 94, "", 9);
    }

    private static void nearestCount() {
        Check.sentence("The count is the number that is nearest to s of all numbers that have the remainder when they are divided by the multiple");
        int[][] due = {{10, 7, 0, 7}, {11, 7, 0, 14}, {14, 7, 0, 14}, {13, 7, 6, 13}, {16, 7, 6, 13}, {17, 7, 6, 20}, {9, 1, 0, 9}, {100, 30, 29, 89}, {105, 30, 29, 119},
            {60, 30, 0, 60}, {61, 30, 1, 61}, {90, 30, 29, 89}, {300, 29, 28, 289}, {12, 3, 2, 11}, {12, 3, 1, 13}};
        for (int[] one : due) {
            count(10, 10 * one[0], "by " + one[1] + " and " + one[2], one[3]);
        }
    }

    private static void countsFrom1() {
        Check.sentence("of all numbers from 1 on");
        count(10, 0, "", 1);
        count(10, 4, "", 1);
        count(10, 10, "", 1);
        count(10, 0, "by 1 and 0", 1);
        count(10, 0, "by 30", 30);
        count(10, 0, "by 30 and 1", 1);
        count(10, 10, "by 30 and 0", 30);
        count(10, 10, "by 30 and 29", 29);
        count(10, 20, "by 5", 5);
        count(10, 0, "by 5 and 4", 4);
        count(10, 10, "by 5 and 4", 4);
        count(10, 140, "by 30", 30);
    }

    private static void greaterOfTwoCounts() {
        Check.sentence("of two equally near ones the greater one");
        count(10, 50, "by 2", 6);
        count(10, 60, "by 2 and 1", 7);
        count(10, 30, "by 4 and 1", 5);
        count(10, 150, "by 10", 20);
        count(10, 450, "by 30", 60);
        count(10, 440, "by 30", 30);
        count(10, 440, "by 30 and 29", 59);
        count(10, 430, "by 30 and 29", 29);
        count(10, 150, "by 30", 30);
        count(10, 140, "by 30 and 29", 29);
    }

    private static void length(int gauge, int value, String chart, int due) {
        KnitGrader g = Check.loaded("gauge 10 " + gauge + " yarn 1;sizes s;measure a 100;measure l " + value + ";" + CHARTS + "piece p;cast a color 0;work l color 0 " + chart + ";end;");
        Check.due("rows of " + value + " mm " + chart + " at " + gauge, () -> g.partRows(0, 0, 1), due);
        Check.due("all rows of it", () -> g.rows(0, 0), due + 1);
    }

    private static void lengthToRows() {
        Check.sentence("let r be floor((value * rows of the gauge + 50) / 100). Without a chart the number of rows is r.");
        length(83, 3, "", 2);
        length(50, 5, "", 3);
        length(50, 1, "", 1);
        length(49, 1, "", 0);
        length(5, 9, "", 0);
        length(5, 10, "", 1);
        length(99, 0, "", 0);
        length(99, 3000, "", 2970);
        length(99, 2999, "", 2969);
        length(10, 94, "", 9);
        length(10, 95, "", 10);
        KnitGrader g = Check.loaded("gauge 10 83 yarn 1;sizes s;measure a 100;measure l 3;piece p;cast a color 0;shape a over l per 1 color 0;end;");
        Check.due("rows of a shape", () -> g.partRows(0, 0, 1), 2);
    }

    private static void rowsByChart() {
        Check.sentence("With a chart of c rows it is the multiple of c that is nearest to r (0 is one); of two equally near ones the greater one.");
        int[][] eight = {{0, 0}, {3, 0}, {4, 8}, {8, 8}, {11, 8}, {12, 16}, {13, 16}, {300, 304}, {299, 296}};
        for (int[] one : eight) {
            length(10, 10 * one[0], "chart eight", one[1]);
        }
        int[][] two = {{0, 0}, {1, 2}, {2, 2}, {3, 4}};
        for (int[] one : two) {
            length(10, 10 * one[0], "chart two", one[1]);
        }
        int[][] ones = {{0, 0}, {1, 1}, {7, 7}};
        for (int[] one : ones) {
            length(10, 10 * one[0], "chart one", one[1]);
        }
        KnitGrader three = Check.loaded(TEN + "measure a 90;measure l 10;measure m 20;" + CHARTS + "piece p;cast a color 0;work l color 0 chart wide;work m color 0 chart wide;end;");
        Check.due("1 row by 3", () -> three.partRows(0, 0, 1), 0);
        Check.due("2 rows by 3", () -> three.partRows(0, 0, 2), 3);
    }

    private static KnitGrader knitted(String measures, String parts) {
        return Check.loaded(TEN + measures + CHARTS + "piece p;" + parts + "end;");
    }

    private static void castInOneRow() {
        Check.sentence("cast makes the stitches of its width, in one row.");
        KnitGrader g = knitted("measure a 70;", "cast a color 0;");
        Check.due("rows", () -> g.rows(0, 0), 1);
        Check.due("rows of the part", () -> g.partRows(0, 0, 0), 1);
        Check.due("stitches", () -> g.stitches(0, 0, 0), 7);
        Check.range("no second row", () -> g.stitches(0, 0, 1));
        KnitGrader least = knitted("measure a 0;", "cast a color 0;");
        Check.due("a row also for the width 0", () -> least.rows(0, 0), 1);
    }

    private static void workLeavesStitches() {
        Check.sentence("work has the rows of its length; without a chart each row leaves the stitches as they are.");
        KnitGrader g = knitted("measure a 70;measure l 30;measure z 0;", "cast a color 0;work l color 0;work z color 0;work l color 0;");
        int[] due = {1, 3, 0, 3};
        for (int part = 0; part < 4; part++) {
            int one = part;
            Check.due("rows of part " + part, () -> g.partRows(0, 0, one), due[part]);
        }
        for (int row = 0; row < 7; row++) {
            int one = row;
            Check.due("stitches behind row " + row, () -> g.stitches(0, 0, one), 7);
        }
        Check.range("no eighth row", () -> g.stitches(0, 0, 7));
    }

    private static void chartNeedsMultiple() {
        Check.sentence("With a chart the stitches must be a multiple of its width");
        for (int stitches = 1; stitches <= 13; stitches++) {
            KnitGrader g = knitted("measure a " + 10 * stitches + ";measure l 30;", "cast a color 0;work l color 0 chart wide;");
            Check.due("failure of " + stitches + " stitches", () -> g.failure(0, 0), stitches % 3 == 0 ? 0 : 13);
        }
    }

    private static void behind(KnitGrader g, int first, int... due) {
        for (int i = 0; i < due.length; i++) {
            int row = first + i;
            Check.due("stitches behind row " + row, () -> g.stitches(0, 0, row), due[i]);
        }
    }

    private static void chartRowsInTurn() {
        Check.sentence("with m as the stitches ahead of the part / the width, row i of the part (from 0) is worked by the row (i modulo c) of the chart, and has m * what this row makes stitches behind it");
        behind(knitted("measure a 70;measure l 160;", "cast a color 0;work l color 0 chart eight;"), 0, 7, 7, 14, 14, 14, 7, 7, 7, 7, 7, 14, 14, 14, 7, 7, 7, 7);
        behind(knitted("measure a 10;measure l 50;", "cast a color 0;work l color 0 chart two;"), 0, 1, 3, 1, 3, 1, 3, 1);
        behind(knitted("measure a 20;measure l 30;measure m 40;", "cast a color 0;work l color 0;work m color 0 chart two;work l color 0;"), 0, 2, 2, 2, 2, 6, 2, 6, 2, 2, 2, 2);
        KnitGrader lace = Check.loaded(TEN + "measure a 120;measure l 40;chart x ssss kyykyykyykyy;chart y kyk tk;"
            + "piece p;cast a color 0;work l color 0 chart x;work l color 0 chart y;end;");
        behind(lace, 0, 12, 4, 12, 4, 12, 18, 12, 18, 12);
        Check.due("a chart as wide as the stitches", () -> lace.extreme(0, 0, false), 4);
    }

    private static KnitGrader shaped(int from, int to, int rows, int per) {
        return Check.loaded(TEN + "measure a " + 10 * from + ";measure b " + 10 * to + ";measure l " + 10 * rows + ";piece p;cast a color 0;shape b over l per " + per + " color 1;end;");
    }

    private static void shapingRows() {
        Check.sentence("n = the absolute value of the difference / per is the number of shaping rows");
        int[][] due = {{20, 26, 1, 6}, {20, 26, 2, 3}, {20, 26, 3, 2}, {26, 20, 1, 6}, {26, 20, 3, 2}, {20, 24, 4, 1}, {24, 20, 4, 1}, {20, 21, 1, 1}, {21, 20, 1, 1}};
        for (int[] one : due) {
            KnitGrader g = shaped(one[0], one[1], 10, one[2]);
            String told = one[0] + " to " + one[1] + " per " + one[2];
            Check.due("the last shaping row of " + told, () -> g.shaping(0, 0, 1, one[3] - 1), 10);
            Check.missing("no further one of " + told, () -> g.shaping(0, 0, 1, one[3]));
        }
    }

    private static void noDifference() {
        Check.sentence("(0 without a difference)");
        for (int per = 1; per <= 4; per++) {
            for (int rows : new int[] {0, 1, 5}) {
                KnitGrader g = shaped(20, 20, rows, per);
                Check.due("failure", () -> g.failure(0, 0), 0);
                Check.missing("no shaping row", () -> g.shaping(0, 0, 1, 0));
                Check.due("rows", () -> g.partRows(0, 0, 1), rows);
                Check.due("stitches behind the last row", () -> g.stitches(0, 0, rows), 20);
            }
        }
    }

    private static void rowsOfShapings() {
        Check.sentence("the shaping row number k (1 to n) is the row floor(k * R / n) of the part (its rows are counted from 1 here)");
        int[][] due = {{3, 6, 10}, {1, 3, 5, 7}, {1, 2, 3, 4, 5}, {9}, {1, 2, 4, 5, 6, 8}, {5, 10}, {1, 3, 4, 6, 7, 9, 10, 12}};
        int[] rows = {10, 7, 5, 9, 8, 10, 12};
        for (int i = 0; i < due.length; i++) {
            for (int per = 1; per <= 4; per += 3) {
                KnitGrader up = shaped(20, 20 + per * due[i].length, rows[i], per);
                KnitGrader down = shaped(20 + per * due[i].length, 20, rows[i], per);
                for (int k = 0; k < due[i].length; k++) {
                    int index = k;
                    // The row of the cast is row 0 of the piece, so that row 1 of the part is row 1.
                    Check.due("shaping row " + (k + 1) + " of " + due[i].length + " in " + rows[i], () -> up.shaping(0, 0, 1, index), due[i][k]);
                    Check.due("shaping row " + (k + 1) + " down", () -> down.shaping(0, 0, 1, index), due[i][k]);
                }
            }
        }
        KnitGrader long1 = shaped(1, 289, 300, 1);
        for (int k = 1; k <= 288; k += 41) {
            int number = k;
            Check.due("shaping row " + k + " of 288 in 300", () -> long1.shaping(0, 0, 1, number - 1), number * 300 / 288);
        }
    }

    private static void stepsOfShapings() {
        Check.sentence("each one increases or decreases the stitches by per");
        behind(shaped(20, 23, 10, 1), 0, 20, 20, 20, 21, 21, 21, 22, 22, 22, 22, 23);
        behind(shaped(23, 20, 10, 1), 0, 23, 23, 23, 22, 22, 22, 21, 21, 21, 21, 20);
        behind(shaped(20, 36, 7, 4), 0, 20, 24, 24, 28, 28, 32, 32, 36);
        behind(shaped(36, 20, 7, 4), 0, 36, 32, 32, 28, 28, 24, 24, 20);
        behind(shaped(20, 30, 5, 2), 0, 20, 22, 24, 26, 28, 30);
        behind(shaped(9, 6, 1, 3), 0, 9, 6);
        behind(shaped(6, 9, 4, 3), 0, 6, 6, 6, 6, 9);
        behind(shaped(2, 1, 3, 1), 0, 2, 2, 2, 1);
    }

    private static void fails(int from, int to, int rows, int per, int due) {
        KnitGrader g = shaped(from, to, rows, per);
        Check.due("failure of " + from + " to " + to + " in " + rows + " rows per " + per, () -> g.failure(0, 0), due);
    }

    private static void reason1() {
        Check.sentence("1 (shape) the difference is no multiple of per");
        fails(20, 21, 10, 1, 0);
        fails(20, 21, 10, 2, 11);
        fails(20, 22, 10, 2, 0);
        fails(20, 23, 10, 2, 11);
        fails(21, 20, 10, 2, 11);
        fails(22, 20, 10, 3, 11);
        fails(23, 20, 10, 3, 0);
        fails(20, 24, 10, 3, 11);
        fails(20, 23, 10, 4, 11);
        fails(20, 24, 10, 4, 0);
        fails(25, 20, 10, 4, 11);
    }

    private static void reason2() {
        Check.sentence("2 (shape) there are more shaping rows than rows");
        fails(20, 30, 10, 1, 0);
        fails(20, 31, 10, 1, 12);
        fails(31, 20, 10, 1, 12);
        fails(30, 20, 10, 1, 0);
        fails(20, 21, 1, 1, 0);
        fails(20, 21, 0, 1, 12);
        fails(20, 24, 0, 4, 12);
        fails(20, 60, 10, 4, 0);
        fails(20, 64, 10, 4, 12);
    }

    private static void reason3() {
        Check.sentence("3 (work with a chart, also one of no rows) the stitches are no multiple of the width of the chart");
        String measures = "measure a 90;measure b 100;measure l 60;measure z 0;measure y 10;";
        String[] parts = {"cast a color 0;work l color 0 chart wide;", "cast b color 0;work l color 0 chart wide;", "cast b color 0;work z color 0 chart wide;",
            "cast a color 0;work z color 0 chart wide;", "cast b color 0;work y color 0 chart wide;", "cast b color 0;work l color 0;", "cast y color 0;work z color 0 chart wide;",
            "cast b color 0;work l color 0 chart one;"};
        int[] due = {0, 13, 13, 0, 13, 0, 13, 0};
        for (int i = 0; i < parts.length; i++) {
            KnitGrader g = knitted(measures, parts[i]);
            Check.due("failure of " + parts[i], () -> g.failure(0, 0), due[i]);
        }
    }

    private static void firstReason() {
        Check.sentence("for the first of these reasons");
        fails(20, 29, 4, 2, 11);
        fails(20, 21, 0, 2, 11);
        fails(20, 31, 2, 4, 11);
        fails(31, 20, 0, 3, 11);
        fails(20, 32, 2, 4, 12);
    }

    private static void firstPart() {
        Check.sentence("A piece fails in a size with the first part that cannot be knitted");
        String measures = "measure a 100;measure b 105;measure l 60;measure z 0;measure w 90;";
        String work = "work l color 0;";
        String[] parts = {"cast a color 0;work l color 0 chart wide;shape w over z per 2 color 0;", "cast a color 0;shape w over z per 1 color 0;work l color 0 chart wide;",
            "cast a color 0;" + work.repeat(8) + "shape w over z per 2 color 0;", "cast a color 0;" + work.repeat(8) + "work z color 0 chart wide;",
            "cast a color 0;" + work.repeat(9), "cast w color 0;work l color 0 chart wide;shape a over l per 1 color 0;work l color 0 chart wide;work z color 0 chart wide;"};
        int[] due = {13, 12, 91, 93, 0, 33};
        for (int i = 0; i < parts.length; i++) {
            KnitGrader g = knitted(measures, parts[i]);
            Check.due("failure of " + parts[i], () -> g.failure(0, 0), due[i]);
        }
        KnitGrader sizes = Check.loaded(TEXT);
        int[][] both = {{0, 33}, {0, 0}};
        for (int i = 0; i < 4; i++) {
            int at = i;
            Check.due("failure in size " + i / 2 + " of piece " + i % 2, () -> sizes.failure(at / 2, at % 2), both[i / 2][i % 2]);
        }
    }

    private static void rowsBeforeAFailure() {
        Check.sentence("(If a piece fails, all its rows before this part are told all the same, and what is told of its rows is told of these.)");
        KnitGrader g = Check.loaded(TEXT);
        Check.due("fails", () -> g.failure(0, 1), 33);
        Check.due("rows", () -> g.rows(0, 1), 1 + 2 + 10);
        Check.due("the last row before the failure", () -> g.stitches(0, 1, 12), 10);
        Check.due("its part", () -> g.partAt(0, 1, 12), 2);
        Check.due("its width", () -> g.width(0, 1, 12), 100.0f);
        Check.due("greatest", () -> g.extreme(0, 1, true), 10);
        Check.due("least", () -> g.extreme(0, 1, false), 6);
        Check.due("mean", () -> g.mean(0, 1), (6 * 3 + 6 + 7 * 3 + 8 * 2 + 9 * 3 + 10) / 13.0);
        Check.due("need of color 1", () -> g.need(0, 1, 1), 6 * 2 + 6 + 7 * 3 + 8 * 2 + 9 * 3 + 10);
        Check.due("need of the color of the failure", () -> g.need(0, 1, 2), 0);
        Check.range("no row of the failure", () -> g.stitches(0, 1, 13));
    }

    private static void rowsAreNumbered() {
        Check.sentence("The rows of a piece are numbered from 0 over all parts; row 0 is that of cast.");
        KnitGrader g = knitted("measure a 30;measure l 20;measure z 0;measure b 50;", "cast a color 0;work l color 0;work z color 0 chart wide;shape b over l per 1 color 0;work z color 0;work l color 0;");
        int[] due = {0, 1, 1, 3, 3, 5, 5};
        for (int row = 0; row < due.length; row++) {
            int one = row;
            Check.due("part of row " + row, () -> g.partAt(0, 0, one), due[row]);
        }
        behind(g, 0, 3, 3, 3, 4, 5, 5, 5);
        Check.due("first shaping row", () -> g.shaping(0, 0, 3, 0), 3);
        Check.due("last shaping row", () -> g.shaping(0, 0, 3, 1), 4);
        Check.range("no row behind the last one", () -> g.partAt(0, 0, 7));
    }

    private static void failure() {
        Check.sentence("Returns 10 * the number of the part + the reason; 0 if it does not fail.");
        Check.due("of a new object", () -> new KnitGrader().failure(1, 0), 0);
        fails(20, 21, 10, 2, 11);
        fails(20, 21, 0, 1, 12);
        KnitGrader g = knitted("measure a 100;measure l 60;", "cast a color 0;work l color 0 chart wide;");
        Check.due("reason 3", () -> g.failure(0, 0), 13);
    }

    private static void rows() {
        Check.sentence("Returns the number of rows of a piece in a size (those before the part with which it fails).");
        KnitGrader g = Check.loaded(TEXT);
        int[][] due = {{1 + 10 + 2, 1 + 2 + 10}, {1 + 12 + 3, 1 + 3 + 12 + 12}};
        for (int i = 0; i < 4; i++) {
            int at = i;
            Check.due("rows(" + i / 2 + ", " + i % 2 + ")", () -> g.rows(at / 2, at % 2), due[i / 2][i % 2]);
        }
        KnitGrader most = Check.loaded("gauge 10 99 yarn 1;sizes s;measure a 3000;piece p;cast a color 0;" + "work a color 0;".repeat(9) + "end;");
        Check.due("the most rows", () -> most.rows(0, 0), 1 + 9 * 2970);
        KnitGrader atOnce = knitted("measure a 100;measure l 60;", "cast a color 0;work l color 0 chart wide;");
        Check.due("fails with part 1", () -> atOnce.rows(0, 0), 1);
    }

    private static void partRows() {
        Check.sentence("Returns the number of rows of a part in a size.");
        KnitGrader g = Check.loaded(TEXT);
        int[][] p = {{1, 10, 2}, {1, 12, 3}};
        int[] q = {1, 3, 12, 12};
        for (int i = 0; i < 6; i++) {
            int at = i;
            Check.due("partRows(" + i / 3 + ", 0, " + i % 3 + ")", () -> g.partRows(at / 3, 0, at % 3), p[i / 3][i % 3]);
        }
        for (int part = 0; part < 4; part++) {
            int one = part;
            Check.due("partRows(1, 1, " + part + ")", () -> g.partRows(1, 1, one), q[part]);
        }
    }

    private static KnitGrader text() {
        KnitGrader g = Check.loaded(TEXT);
        g.setEase(0, 0, 3);
        g.save(1);
        g.setEase(0, 0, 0);
        Check.write(g, "c");
        return g;
    }

    private static void refused(String what, String exception, Check.CallOf call) {
        Check.refused(what, exception, EdgesOfKnittingTest::text, call);
    }

    private static KnitGrader failing() {
        return knitted("measure a 100;measure l 60;measure z 0;", "cast a color 0;work z color 0;work l color 0 chart wide;work l color 0;shape l over a per 1 color 0;");
    }

    private static void partRowsOfAFailure() {
        Check.sentence("partRows: Throws IllegalStateException if the piece fails with this part or an earlier one");
        Check.due("the part before it", () -> failing().partRows(0, 0, 1), 0);
        Check.due("the cast before it", () -> failing().partRows(0, 0, 0), 1);
        for (int part = 2; part < 5; part++) {
            int one = part;
            Check.refused("partRows of part " + part, Check.STATE, EdgesOfKnittingTest::failing, g -> g.partRows(0, 0, one));
        }
        refused("the part of the failure", Check.STATE, g -> g.partRows(0, 1, 3));
        Check.due("not in another size", () -> text().partRows(1, 1, 3), 12);
        Check.due("not in another piece", () -> text().partRows(0, 0, 2), 2);
    }

    private static void stitches() {
        Check.sentence("Returns the stitches that there are behind a row.");
        KnitGrader g = Check.loaded(TEXT);
        // Size s: 10 to 6 stitches in 10 rows: rows 2, 5, 7 and 10 of the part.
        int[] due = {10, 10, 9, 9, 9, 8, 8, 7, 7, 7, 6, 6, 6};
        for (int row = 0; row < due.length; row++) {
            int one = row;
            Check.due("stitches(0, 0, " + row + ")", () -> g.stitches(0, 0, one), due[row]);
        }
        Check.due("the last row in size m", () -> g.stitches(1, 1, 27), 12);
        Check.due("a row by the chart in size m", () -> g.stitches(1, 1, 16), 12);
    }

    private static void rowsOutside() {
        Check.sentence("stitches, partAt, width: Throws IndexOutOfBoundsException if there is no such row");
        Check.due("the last row has stitches", () -> text().stitches(0, 0, 12), 6);
        Check.due("the last row has a part", () -> text().partAt(0, 0, 12), 2);
        Check.due("the last row has a width", () -> text().width(0, 0, 12), 60.0f);
        for (int row : new int[] {-1, 13, 1000, Integer.MIN_VALUE, Integer.MAX_VALUE}) {
            refused("stitches of row " + row, Check.RANGE, g -> g.stitches(0, 0, row));
            refused("partAt of row " + row, Check.RANGE, g -> g.partAt(0, 0, row));
            refused("width of row " + row, Check.RANGE, g -> g.width(0, 0, row));
        }
        refused("stitches of a row of the failure", Check.RANGE, g -> g.stitches(0, 1, 13));
        refused("partAt of a row of the failure", Check.RANGE, g -> g.partAt(0, 1, 13));
        refused("width of a row of the failure", Check.RANGE, g -> g.width(0, 1, 13));
        Check.due("this row is there in size m", () -> text().stitches(1, 1, 13), 11);
    }

    private static void partAt() {
        Check.sentence("Returns the part to which a row belongs.");
        KnitGrader g = Check.loaded(TEXT);
        int[][] due = {{0, 0, 0, 0}, {0, 0, 1, 1}, {0, 0, 10, 1}, {0, 0, 11, 2}, {0, 0, 12, 2}, {1, 0, 12, 1}, {1, 0, 13, 2}, {1, 1, 0, 0}, {1, 1, 3, 1}, {1, 1, 4, 2}, {1, 1, 15, 2}, {1, 1, 16, 3},
            {1, 1, 27, 3}};
        for (int[] one : due) {
            Check.due("partAt(" + one[0] + ", " + one[1] + ", " + one[2] + ")", () -> g.partAt(one[0], one[1], one[2]), one[3]);
        }
    }

    private static void extreme(KnitGrader g, String what, int least, int greatest) {
        Check.due("least of " + what, () -> g.extreme(0, 0, false), least);
        Check.due("greatest of " + what, () -> g.extreme(0, 0, true), greatest);
    }

    private static void extremes() {
        Check.sentence("Returns the greatest or the least number of stitches behind a row of a piece.");
        extreme(knitted("measure a 70;", "cast a color 0;"), "one row", 7, 7);
        extreme(shaped(20, 26, 10, 2), "an increase", 20, 26);
        extreme(shaped(26, 20, 10, 2), "a decrease", 20, 26);
        String measures = "measure a 60;measure b 100;measure c 30;measure l 60;measure z 0;";
        extreme(knitted(measures, "cast a color 0;shape b over l per 1 color 0;shape c over b per 1 color 0;shape a over l per 1 color 0;"), "ups and downs", 3, 10);
        extreme(knitted(measures, "cast a color 0;work l color 0 chart two;"), "a chart that widens", 6, 18);
        extreme(knitted(measures, "cast a color 0;work z color 0 chart two;"), "this chart in no rows", 6, 6);
        extreme(Check.loaded(TEN + measures + "chart n sss kyykyykyy;piece p;cast a by 9 color 0;work l color 0 chart n;end;"), "a chart that narrows", 3, 9);
        extreme(Check.loaded(TEN + measures + "chart n sss kyykyykyy;piece p;cast a by 9 color 0;work z color 0 chart n;end;"), "that chart in no rows", 9, 9);
        for (String rows : new String[] {"sss kkk kyykyykyy", "kkkkkkkkk sss kyykyykyy", "kkkkkkkkk kkkkkkkkk sss kyykyykyy"}) {
            extreme(Check.loaded(TEN + measures + "chart n " + rows + ";chart o s kyy;piece p;cast a by 9 color 0;work l color 0 chart n;end;"), "a chart of " + rows, 3, 9);
        }
        extreme(knitted(measures, "cast a color 0;work l color 0;shape b over z per 1 color 0;"), "a failure", 6, 6);
    }

    /** Longer pieces before shorter ones, in turn. */
    private static void pieceAfterPiece() {
        Check.sentence("what is told of a piece does not hang on the piece that was told of before it");
        KnitGrader g = Check.loaded(TEN + "measure a 60;measure b 90;measure l 30;measure z 0;" + CHARTS + "piece p;cast b color 0;work l color 0;shape a over l per 1 color 0;shape b plus 90 over b per 2 color 0;end;"
            + "piece q;cast a color 0;work l color 0;shape b over z per 1 color 0;work l color 0;end;piece r;cast a color 0;end;piece t;cast b minus 60 color 1;work l color 0 chart wide;end;");
        int[] rows = {16, 4, 1, 4};
        int[] least = {6, 6, 6, 3};
        int[] greatest = {18, 6, 6, 3};
        int[] sums = {9 + 27 + 8 + 7 + 6 + 8 + 8 + 10 + 12 + 12 + 14 + 16 + 16 + 18, 24, 6, 12};
        int[] order = {0, 1, 0, 2, 0, 3, 1, 2, 1, 3, 2, 3, 0, 0};
        for (int piece : order) {
            Check.due("rows of " + piece, () -> g.rows(0, piece), rows[piece]);
            Check.due("last part of " + piece, () -> g.partAt(0, piece, rows[piece] - 1), new int[] {3, 1, 0, 1}[piece]);
            Check.due("failure of " + piece, () -> g.failure(0, piece), piece == 1 ? 22 : 0);
            Check.due("least of " + piece, () -> g.extreme(0, piece, false), least[piece]);
            Check.due("greatest of " + piece, () -> g.extreme(0, piece, true), greatest[piece]);
            Check.due("mean of " + piece, () -> g.mean(0, piece), (double) sums[piece] / rows[piece]);
            Check.due("need of " + piece, () -> g.need(0, piece, 0), sums[piece] - (piece == 3 ? 3 : 0));
        }
    }

    private static void shaping() {
        Check.sentence("Returns the number of the row (of the piece). index: 0 for the first shaping row of this part");
        KnitGrader g = Check.loaded(TEXT);
        int[] s = {2, 5, 7, 10};
        for (int index = 0; index < 4; index++) {
            int one = index;
            Check.due("shaping(0, 0, 1, " + index + ")", () -> g.shaping(0, 0, 1, one), s[index]);
        }
        KnitGrader later = knitted("measure a 60;measure b 80;measure l 30;measure z 0;", "cast a color 0;work l color 0;work z color 0;shape b over l per 1 color 0;shape a over l per 2 color 0;");
        Check.due("behind a work", () -> later.shaping(0, 0, 3, 0), 4);
        Check.due("the second one", () -> later.shaping(0, 0, 3, 1), 6);
        Check.due("of the next shape", () -> later.shaping(0, 0, 4, 0), 9);
    }

    private static void shapingOfAFailure() {
        Check.sentence("shaping: Throws IllegalStateException if the piece fails with this part or an earlier one");
        String parts = "cast a color 0;shape b over l per 1 color 0;shape a over l per 4 color 0;shape b over l per 1 color 0;";
        Check.Start start = () -> knitted("measure a 60;measure b 80;measure l 30;", parts);
        Check.due("the shape before it", () -> start.grader().shaping(0, 0, 1, 0), 1);
        for (int index : new int[] {0, -1, 5}) {
            Check.refused("the shape of the failure", Check.STATE, start, g -> g.shaping(0, 0, 2, index));
            Check.refused("a shape behind it", Check.STATE, start, g -> g.shaping(0, 0, 3, index));
            Check.refused("a work of a failure", Check.STATE, EdgesOfKnittingTest::failing, g -> g.shaping(0, 0, 2, index));
        }
    }

    private static void shapingMissing() {
        Check.sentence("Throws NoSuchElementException if the part has not so many shaping rows (0 if it is no shape), or index is negative");
        for (int index : new int[] {-1, 4, 5, Integer.MIN_VALUE, Integer.MAX_VALUE}) {
            refused("shaping(0, 0, 1, " + index + ")", Check.MISSING, g -> g.shaping(0, 0, 1, index));
        }
        for (int index : new int[] {-1, 0, 1}) {
            refused("of a cast", Check.MISSING, g -> g.shaping(0, 0, 0, index));
            refused("of a work", Check.MISSING, g -> g.shaping(0, 0, 2, index));
            refused("of a work by a chart", Check.MISSING, g -> g.shaping(1, 1, 3, index));
        }
        refused("of a work before a failure", Check.MISSING, g -> g.shaping(0, 1, 1, 0));
        Check.missing("of a shape without a difference", () -> shaped(20, 20, 5, 1).shaping(0, 0, 1, 0));
    }

    private static void width() {
        Check.sentence("a float: stitches * 100.0f / stitches of the gauge");
        for (int gauge : new int[] {5, 7, 33, 97, 99}) {
            KnitGrader g = Check.loaded("gauge " + gauge + " 10 yarn 1;sizes s;measure a 990;measure l 20;chart two kyy s;piece p;cast a color 0;work l color 0 chart two;end;");
            int stitches = g.stitches(0, 0, 0);
            Check.due("stitches at " + gauge, () -> g.stitches(0, 0, 1), 3 * stitches);
            Check.due("width of row 0 at " + gauge, () -> g.width(0, 0, 0), stitches * 100.0f / gauge);
            Check.due("width of row 1 at " + gauge, () -> g.width(0, 0, 1), 3 * stitches * 100.0f / gauge);
        }
        Check.due("a stitch at 99", () -> Check.loaded("gauge 99 10 yarn 1;sizes s;measure a 0;piece p;cast a color 0;end;").width(0, 0, 0), 1.010101f);
        KnitGrader g = new KnitGrader();
        g.setGauge(7, 30, 10);
        Check.due("by the gauge as it is now", () -> g.width(1, 0, 0), 32 * 100.0f / 7);
    }

    private static void mean() {
        Check.sentence("a double: the sum of the stitches behind all its rows divided by the number of rows");
        Check.due("one row", () -> knitted("measure a 70;", "cast a color 0;").mean(0, 0), 7.0);
        Check.due("an increase", () -> shaped(20, 23, 10, 1).mean(0, 0), (20 * 3 + 21 * 3 + 22 * 4 + 23) / 11.0);
        Check.due("a decrease", () -> shaped(23, 20, 10, 1).mean(0, 0), (23 * 3 + 22 * 3 + 21 * 4 + 20) / 11.0);
        Check.due("a decrease by four", () -> shaped(36, 20, 7, 4).mean(0, 0), (36 + 32 + 32 + 28 + 28 + 24 + 24 + 20) / 8.0);
        Check.due("a chart", () -> knitted("measure a 70;measure l 80;", "cast a color 0;work l color 0 chart eight;").mean(0, 0), (7 + 7 + 14 * 3 + 7 * 4) / 9.0);
        Check.due("parts of all kinds", () -> knitted("measure a 60;measure b 80;measure l 30;", "cast a color 0;work l color 1;shape b over l per 1 color 2;work l color 3 chart wide;work l color 0;").mean(0, 0),
            (6 * 4 + 7 + 7 + 8) / 7.0);
        Check.due("a chart of one row", () -> knitted("measure a 70;measure l 80;", "cast a color 0;work l color 0 chart one;").mean(0, 0), 7.0);
        Check.due("a chart of 8 rows before another one", () -> Check.loaded(TEN + "measure a 70;measure l 160;" + CHARTS.replace("chart one k;", "") + "chart last kkkkkk;piece p;cast a color 0;work l color 0 chart eight;end;").mean(0, 0),
            (7 + 14 * 3 * 2 + 7 * 10) / 17.0);
        KnitGrader third = knitted("measure a 10;measure l 40;", "cast a color 0;work l color 0 chart two;");
        Check.due("no float", () -> third.mean(0, 0), (1 + 3 + 1 + 3 + 1) / 5.0);
        Check.due("a third", () -> knitted("measure a 10;measure l 20;", "cast a color 0;work l color 0 chart two;").mean(0, 0), 5 / 3.0);
    }

    private static void placesOutside() {
        Check.sentence("Throws IndexOutOfBoundsException if there is no such size or piece");
        int[][] places = {{2, 0}, {0, 2}, {2, 2}, {-1, 0}, {0, -1}, {-1, 1}, {6, 0}, {0, 6}};
        for (int i = 0; i < places.length + 2 * NOWHERE.length; i++) {
            int far = i - places.length;
            int size = far < 0 ? places[i][0] : far % 2 == 0 ? NOWHERE[far / 2] : 0;
            int piece = far < 0 ? places[i][1] : far % 2 == 0 ? 0 : NOWHERE[far / 2];
            String at = " of " + size + ", " + piece;
            refused("failure" + at, Check.RANGE, g -> g.failure(size, piece));
            refused("rows" + at, Check.RANGE, g -> g.rows(size, piece));
            refused("partRows" + at, Check.RANGE, g -> g.partRows(size, piece, 0));
            refused("stitches" + at, Check.RANGE, g -> g.stitches(size, piece, 0));
            refused("partAt" + at, Check.RANGE, g -> g.partAt(size, piece, 0));
            refused("extreme" + at, Check.RANGE, g -> g.extreme(size, piece, true));
            refused("shaping" + at, Check.RANGE, g -> g.shaping(size, piece, 0, 0));
            refused("width" + at, Check.RANGE, g -> g.width(size, piece, 0));
            refused("mean" + at, Check.RANGE, g -> g.mean(size, piece));
        }
        KnitGrader none = Check.loaded("gauge 20 30 yarn 10;sizes s;");
        Check.range("there is no piece", () -> none.failure(0, 0));
        Check.range("there are no rows of no piece", () -> none.rows(0, 0));
    }

    private static void partsOutside() {
        Check.sentence("partRows, shaping: Throws IndexOutOfBoundsException if there is no such part (also of a piece that fails)");
        for (int part : new int[] {-1, 3, 10, Integer.MIN_VALUE, Integer.MAX_VALUE}) {
            refused("partRows of part " + part, Check.RANGE, g -> g.partRows(0, 0, part));
            refused("shaping of part " + part, Check.RANGE, g -> g.shaping(0, 0, part, -1));
        }
        for (int part : new int[] {-1, 5, 10, Integer.MIN_VALUE, Integer.MAX_VALUE}) {
            Check.refused("partRows of part " + part + " of a failure", Check.RANGE, EdgesOfKnittingTest::failing, g -> g.partRows(0, 0, part));
            Check.refused("shaping of part " + part + " of a failure", Check.RANGE, EdgesOfKnittingTest::failing, g -> g.shaping(0, 0, part, -1));
        }
    }
}
