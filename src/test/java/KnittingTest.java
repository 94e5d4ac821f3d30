/** Promises 16 to 24: what is knitted, row by row, and why a piece fails. */
public final class KnittingTest {
    private static final String TABLE = "gauge 20 30 yarn 10;sizes s m;measure hip 400 450;measure waist 350 400;"
        + "measure long 100 120;measure zero 0 0;measure tiny 10 13;chart lace kyt kkk;chart fan kyy s;";
    private static final String TEXT = TABLE
        + "piece a;cast hip by 3 color 0;work long color 1 chart lace;shape waist by 4 and 2 over long per 1 color 0;end;"
        + "piece b;cast waist minus 50 color 2;shape hip over long per 2 color 2;work tiny color 3 chart fan;end;"
        + "piece c;cast hip color 0;work zero color 1 chart lace;shape waist over zero per 1 color 1;work long color 0;end;";

    private KnittingTest() {
    }

    public static void main(String[] args) {
        counts();
        lengths();
        failure();
        reasons();
        rows();
        partRows();
        stitches();
        partAt();
        extreme();
        shaping();
        shapingEveryRow();
        width();
        mean();
        greatest();
        Check.end("KnittingTest");
    }

    private static void wrongPlace(String call, Check.Call size, Check.Call negativeSize, Check.Call piece, Check.Call negativePiece) {
        Check.range(call + " of no size", size);
        Check.range(call + " of size -1", negativeSize);
        Check.range(call + " of no piece", piece);
        Check.range(call + " of piece -1", negativePiece);
    }

    private static void count(int gauge, int value, String width, int due) {
        KnitGrader g = Check.loaded("gauge " + gauge + " 30 yarn 10;sizes s;measure a " + value + ";piece p;cast a " + width + " color 0;end;");
        Check.due("stitches of " + value + " " + width + " at " + gauge, () -> g.stitches(0, 0, 0), due);
    }

    /** The stitches of a width: rounding, ease, multiple and remainder. */
    private static void counts() {
        count(20, 400, "", 80);
        count(30, 5, "", 2);
        count(29, 5, "", 1);
        count(49, 1, "", 1);
        count(50, 3, "", 2);
        count(99, 3000, "", 2970);
        count(99, 3000, "plus 999", 3959);
        count(99, 3000, "plus 999 by 30 and 29", 3959);
        count(20, 400, "plus 25", 85);
        count(20, 400, "minus 25", 75);
        count(20, 400, "minus 999", 1);
        count(20, 0, "", 1);
        count(20, 0, "by 5", 5);
        count(20, 0, "by 5 and 2", 2);
        count(20, 10, "by 5", 5);
        count(20, 5, "by 10", 10);
        count(20, 20, "by 10 and 8", 8);
        count(20, 400, "by 3", 81);
        count(20, 400, "by 3 and 2", 80);
        count(20, 400, "by 4 and 2", 82);
        count(20, 400, "by 7", 77);
        count(20, 400, "by 30 and 29", 89);
        count(20, 400, "minus 100 by 30 and 0", 60);
        count(20, 75, "by 30", 30);
        count(20, 225, "by 30", 60);
        count(20, 224, "by 30", 60);
        count(20, 220, "by 30", 30);
    }

    private static void length(int value, String chart, int due) {
        KnitGrader g = Check.loaded("gauge 20 30 yarn 10;sizes s;measure a 300;measure b " + value
            + ";chart two k k;chart four k k k k;chart eight k k k k k k k k;piece p;cast a color 0;work b color 0 " + chart + ";end;");
        Check.due("rows of " + value + " " + chart, () -> g.partRows(0, 0, 1), due);
    }

    private static void lengths() {
        length(0, "", 0);
        length(1, "", 0);
        length(2, "", 1);
        length(5, "", 2);
        length(100, "", 30);
        length(3000, "", 900);
        length(100, "chart four", 32);
        length(97, "chart four", 28);
        length(103, "chart four", 32);
        length(10, "chart eight", 0);
        length(13, "chart eight", 8);
        length(0, "chart eight", 0);
        length(3, "chart two", 2);
        length(1, "chart two", 0);
        length(100, "chart two", 30);
    }

    private static void failure() {
        KnitGrader g = Check.loaded(TEXT);
        int[][] due = {{0, 0, 13}, {0, 0, 22}};
        for (int i = 0; i < 6; i++) {
            int s = i / 3;
            int p = i % 3;
            Check.due("failure(" + s + ", " + p + ")", () -> g.failure(s, p), due[s][p]);
        }
        wrongPlace("failure", () -> g.failure(2, 0), () -> g.failure(-1, 0), () -> g.failure(0, 3), () -> g.failure(0, -1));
    }

    private static void reason(String parts, int due) {
        KnitGrader g = Check.loaded(TABLE + "piece p;" + parts + "end;");
        Check.due("failure of " + parts, () -> g.failure(0, 0), due);
    }

    private static void reasons() {
        reason("cast hip color 0;shape waist over long per 1 color 0;", 0);
        reason("cast hip color 0;shape waist over long per 2 color 0;", 0);
        reason("cast hip color 0;shape waist over long per 3 color 0;", 11);
        reason("cast waist color 0;shape hip over long per 4 color 0;", 11);
        reason("cast waist color 0;shape hip over zero per 3 color 0;", 11);
        reason("cast waist color 0;shape hip over zero per 1 color 0;", 12);
        reason("cast waist color 0;shape hip over tiny per 2 color 0;", 12);
        reason("cast hip color 0;shape hip over zero per 4 color 0;", 0);
        reason("cast hip minus 15 color 0;shape hip over tiny per 1 color 0;", 0);
        reason("cast hip minus 20 color 0;shape hip over tiny per 1 color 0;", 12);
        reason("cast hip color 0;work long color 0 chart lace;", 13);
        reason("cast hip color 0;work zero color 0 chart lace;", 13);
        reason("cast hip color 0;work long color 0 chart fan;", 0);
        reason("cast hip by 3 color 0;work long color 0;work zero color 0 chart lace;shape hip over zero per 4 color 0;", 31);
        reason("cast hip color 0;shape waist over long per 3 color 0;work long color 0 chart lace;", 11);
        StringBuilder long10 = new StringBuilder("cast hip color 0;");
        for (int i = 0; i < 8; i++) {
            long10.append("work tiny color 0;");
        }
        reason(long10 + "work tiny color 0 chart lace;", 93);
        reason(long10 + "work tiny color 0;", 0);
    }

    private static void rows() {
        KnitGrader g = Check.loaded(TEXT);
        int[][] due = {{61, 35, 1}, {73, 41, 1}};
        for (int i = 0; i < 6; i++) {
            int s = i / 3;
            int p = i % 3;
            Check.due("rows(" + s + ", " + p + ")", () -> g.rows(s, p), due[s][p]);
        }
        wrongPlace("rows", () -> g.rows(2, 0), () -> g.rows(-1, 0), () -> g.rows(0, 3), () -> g.rows(0, -1));
    }

    private static void partRows() {
        KnitGrader g = Check.loaded(TEXT);
        int[][][] due = {{{1, 30, 30}, {1, 30, 4}}, {{1, 36, 36}, {1, 36, 4}}};
        for (int i = 0; i < 12; i++) {
            int s = i / 6;
            int p = i / 3 % 2;
            int part = i % 3;
            Check.due("partRows(" + s + ", " + p + ", " + part + ")", () -> g.partRows(s, p, part), due[s][p][part]);
        }
        Check.due("a part before the failure", () -> g.partRows(0, 2, 0), 1);
        Check.state("the part that fails", () -> g.partRows(0, 2, 1));
        Check.state("a part behind the failure", () -> g.partRows(0, 2, 3));
        Check.due("a part of no rows", () -> g.partRows(1, 2, 1), 0);
        Check.state("the shape that fails", () -> g.partRows(1, 2, 2));
        Check.range("partRows of part 4", () -> g.partRows(0, 2, 4));
        Check.range("partRows of part 3 of 3", () -> g.partRows(0, 0, 3));
        Check.range("partRows of part -1", () -> g.partRows(0, 2, -1));
        wrongPlace("partRows", () -> g.partRows(2, 2, 1), () -> g.partRows(-1, 0, 0), () -> g.partRows(0, 3, 0), () -> g.partRows(0, -1, 0));
    }

    private static void behind(KnitGrader g, int size, int piece, int[][] due) {
        for (int[] one : due) {
            Check.due("stitches(" + size + ", " + piece + ", " + one[0] + ")", () -> g.stitches(size, piece, one[0]), one[1]);
        }
    }

    private static void stitches() {
        KnitGrader g = Check.loaded(TEXT);
        behind(g, 0, 0, new int[][] {{0, 81}, {1, 81}, {31, 81}, {32, 80}, {60, 70}});
        behind(g, 1, 0, new int[][] {{0, 90}, {36, 90}, {39, 90}, {40, 89}, {44, 89}, {45, 88}, {48, 88}, {49, 87}, {71, 83}, {72, 82}});
        behind(g, 0, 1, new int[][] {{0, 60}, {2, 60}, {3, 62}, {5, 62}, {6, 64}, {29, 78}, {30, 80}, {31, 240}, {32, 80}, {33, 240}, {34, 80}});
        behind(g, 1, 1, new int[][] {{0, 70}, {2, 70}, {3, 72}, {6, 72}, {7, 74}, {36, 90}, {37, 270}, {38, 90}, {40, 90}});
        behind(g, 0, 2, new int[][] {{0, 80}});
        behind(g, 1, 2, new int[][] {{0, 90}});
        Check.range("the row behind the last one", () -> g.stitches(0, 0, 61));
        Check.range("row -1", () -> g.stitches(0, 0, -1));
        Check.range("a row of the part that fails", () -> g.stitches(0, 2, 1));
        Check.range("the greatest number as a row", () -> g.stitches(0, 0, Integer.MAX_VALUE));
        wrongPlace("stitches", () -> g.stitches(2, 0, 0), () -> g.stitches(-1, 0, 0), () -> g.stitches(0, 3, 0), () -> g.stitches(0, -1, 0));
    }

    private static void partAt() {
        KnitGrader g = Check.loaded(TEXT);
        int[][] due = {{0, 0}, {1, 1}, {30, 1}, {31, 2}, {34, 2}};
        for (int[] one : due) {
            Check.due("partAt(0, 1, " + one[0] + ")", () -> g.partAt(0, 1, one[0]), one[1]);
        }
        Check.range("partAt behind the last row", () -> g.partAt(0, 1, 35));
        Check.range("partAt of row -1", () -> g.partAt(0, 1, -1));
        Check.range("partAt in the part that fails", () -> g.partAt(1, 2, 1));
        wrongPlace("partAt", () -> g.partAt(2, 0, 0), () -> g.partAt(-1, 0, 0), () -> g.partAt(0, 3, 0), () -> g.partAt(0, -1, 0));
        KnitGrader gap = Check.loaded(TABLE + "piece p;cast hip color 0;work zero color 1;shape hip over zero per 1 color 1;work tiny color 0;end;");
        Check.due("parts without rows have none", () -> gap.partAt(0, 0, 1), 3);
    }

    private static void extreme() {
        KnitGrader g = Check.loaded(TEXT);
        int[][][] due = {{{70, 81}, {60, 240}, {80, 80}}, {{82, 90}, {70, 270}, {90, 90}}};
        for (int i = 0; i < 6; i++) {
            int s = i / 3;
            int p = i % 3;
            Check.due("least of " + s + ", " + p, () -> g.extreme(s, p, false), due[s][p][0]);
            Check.due("greatest of " + s + ", " + p, () -> g.extreme(s, p, true), due[s][p][1]);
        }
        wrongPlace("extreme", () -> g.extreme(2, 0, true), () -> g.extreme(-1, 0, true), () -> g.extreme(0, 3, false), () -> g.extreme(0, -1, false));
        KnitGrader funnel = Check.loaded(TABLE.replace("chart fan kyy s;", "chart fan sss kyykyykyy;")
            + "piece p;cast hip by 9 color 0;work tiny color 0 chart fan;end;piece q;cast hip by 9 color 0;work zero color 0 chart fan;end;");
        Check.due("least within a chart", () -> funnel.extreme(0, 0, false), 27);
        Check.due("greatest within a chart", () -> funnel.extreme(0, 0, true), 81);
        Check.due("a chart of no rows has none", () -> funnel.extreme(0, 1, false), 81);
    }

    private static void shaping() {
        KnitGrader g = Check.loaded(TEXT);
        int[] sizeM = {40, 45, 49, 54, 58, 63, 67, 72};
        for (int i = 0; i < sizeM.length; i++) {
            int index = i;
            Check.due("shaping(1, 0, 2, " + i + ")", () -> g.shaping(1, 0, 2, index), sizeM[i]);
        }
        Check.missing("shaping(1, 0, 2, 8)", () -> g.shaping(1, 0, 2, 8));
        Check.missing("shaping(1, 0, 2, -1)", () -> g.shaping(1, 0, 2, -1));
        Check.missing("shaping of the greatest index", () -> g.shaping(1, 0, 2, Integer.MAX_VALUE));
        int[] sizeMofB = {3, 7, 10, 14, 18, 21, 25, 28, 32, 36};
        for (int i = 0; i < sizeMofB.length; i++) {
            int index = i;
            Check.due("shaping(1, 1, 1, " + i + ")", () -> g.shaping(1, 1, 1, index), sizeMofB[i]);
        }
        Check.missing("shaping of cast", () -> g.shaping(0, 0, 0, 0));
        Check.missing("shaping of work", () -> g.shaping(0, 0, 1, 0));
        Check.missing("shaping of the cast before a failure", () -> g.shaping(0, 2, 0, 0));
        Check.state("shaping of the part that fails", () -> g.shaping(1, 2, 2, 0));
        Check.state("shaping behind a failure", () -> g.shaping(1, 2, 3, 0));
        Check.state("a failure comes before the index", () -> g.shaping(1, 2, 2, -1));
        Check.range("shaping of no part", () -> g.shaping(1, 2, 4, 0));
        Check.range("shaping of part -1", () -> g.shaping(1, 2, -1, 0));
        wrongPlace("shaping", () -> g.shaping(2, 2, 2, 0), () -> g.shaping(-1, 0, 2, 0), () -> g.shaping(0, 3, 2, 0), () -> g.shaping(0, -1, 2, -1));
        KnitGrader same = Check.loaded(TABLE + "piece p;cast hip color 0;shape hip over long per 1 color 0;end;");
        Check.missing("a shape without a difference", () -> same.shaping(0, 0, 1, 0));
    }

    /** As many shaping rows as rows in size s, one more in size m. */
    private static void shapingEveryRow() {
        String text = "gauge 20 30 yarn 10;sizes s m;measure a 350 350;measure b 400 405;measure c 33 33;"
            + "piece p;cast a color 0;shape b over c per 1 color 0;end;";
        KnitGrader g = Check.loaded(text);
        for (int i = 0; i < 10; i++) {
            int index = i;
            Check.due("every row: shaping " + i, () -> g.shaping(0, 0, 1, index), 1 + i);
            Check.due("every row: stitches " + (i + 1), () -> g.stitches(0, 0, index + 1), 71 + i);
        }
        Check.due("one shaping row too many", () -> g.failure(1, 0), 12);
        Check.due("all rows of it", () -> g.rows(1, 0), 1);
    }

    private static void width() {
        KnitGrader g = Check.loaded(TEXT);
        Check.due("width(0, 0, 0)", () -> g.width(0, 0, 0), 81 * 100.0f / 20);
        Check.due("width(0, 1, 31)", () -> g.width(0, 1, 31), 1200.0f);
        g.setGauge(33, 30, 10);
        Check.due("a float is no double", () -> g.width(0, 1, 0), 99 * 100.0f / 33);
        g.setGauge(29, 30, 10);
        Check.due("stitches at 29", () -> g.stitches(0, 1, 0), 87);
        g.setGauge(97, 30, 10);
        Check.due("stitches at 97", () -> g.stitches(0, 1, 0), 291);
        Check.due("a rounded float", () -> g.width(0, 0, 0), 387 * 100.0f / 97);
        Check.range("width behind the last row", () -> g.width(0, 2, 1));
        Check.range("width of row -1", () -> g.width(0, 0, -1));
        wrongPlace("width", () -> g.width(2, 0, 0), () -> g.width(-1, 0, 0), () -> g.width(0, 3, 0), () -> g.width(0, -1, 0));
    }

    private static void mean() {
        KnitGrader g = Check.loaded(TEXT);
        Check.due("mean(1, 0)", () -> g.mean(1, 0), 6434.0 / 73);
        Check.due("mean(0, 1)", () -> g.mean(0, 1), 2790.0 / 35);
        Check.due("mean of a piece that fails", () -> g.mean(0, 2), 80.0);
        wrongPlace("mean", () -> g.mean(2, 0), () -> g.mean(-1, 0), () -> g.mean(0, 3), () -> g.mean(0, -1));
    }

    /** The longest and widest piece: 26731 rows, of up to 12 times 3959 stitches. */
    private static void greatest() {
        StringBuilder t = new StringBuilder("gauge 99 99 yarn 99;sizes s;measure a 3000;chart x kyyyyyyyyyyy ssss tt t;piece p;cast a plus 999 color 3;");
        for (int i = 0; i < 9; i++) {
            t.append("work a color 3 chart x;");
        }
        KnitGrader g = Check.loaded(t + "end;");
        int rows = 1 + 9 * 2972;
        Check.due("rows", () -> g.rows(0, 0), rows);
        Check.due("most stitches", () -> g.extreme(0, 0, true), 12 * 3959);
        Check.due("first chart row", () -> g.stitches(0, 0, 1), 12 * 3959);
        Check.due("second chart row", () -> g.stitches(0, 0, 2), 4 * 3959);
        Check.due("last row", () -> g.stitches(0, 0, rows - 1), 3959);
        long sum = 3959L * (1 + 9 * 743 * (12 + 4 + 2 + 1));
        Check.due("need", () -> g.need(0, 0, 3), 99 * sum);
        Check.due("mean", () -> g.mean(0, 0), (double) sum / rows);
        Check.due("no lot for it", () -> g.possible(), 0);
    }
}
