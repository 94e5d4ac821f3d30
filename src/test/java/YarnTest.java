/** Promises 25 to 29: needs of yarn, and lots dealt to pieces. */
public final class YarnTest {
    private static final String PIECES = "gauge 20 30 yarn 10;sizes s m;measure hip 400 450;measure long 100 120;measure zero 0 0;chart lace kyt kkk;"
        + "piece a;cast hip color 1;work long color 2;shape hip minus 50 over long per 2 color 1;end;"
        + "piece b;cast hip by 3 color 0;work long color 3 chart lace;end;"
        + "piece c;cast hip color 3;work zero color 0;work long color 0 chart lace;end;";

    private YarnTest() {
    }

    public static void main(String[] args) {
        need();
        lot();
        roomOfLots();
        fewestLots();
        firstLots();
        piecesWithoutNeed();
        manyPieces();
        dealtExceptions();
        lotsUsed();
        possible();
        possibleWithoutPieces();
        Check.end("YarnTest");
    }

    private static void need() {
        KnitGrader g = Check.loaded(PIECES);
        // Size s, a: 80 stitches to 70 in 5 shaping rows 6, 12, 18, 24, 30: 25 + 19 + 13 + 7 + 1 = 65 times 2 less.
        long[][] sizeS = {{0, 10 * (80 + 30 * 80 - 130), 24000, 0}, {810, 0, 0, 24300}, {0, 0, 0, 800}};
        // Size m, a: 90 to 80 over 36 rows in rows 7, 14, 21, 28, 36: 30 + 23 + 16 + 9 + 1 = 79 times 2 less.
        long[][] sizeM = {{0, 10 * (90 + 36 * 90 - 158), 32400, 0}, {900, 0, 0, 32400}, {32400, 0, 0, 900}};
        for (int i = 0; i < 12; i++) {
            int p = i / 4;
            int color = i % 4;
            Check.due("need(0, " + p + ", " + color + ")", () -> g.need(0, p, color), sizeS[p][color]);
            Check.due("need(1, " + p + ", " + color + ")", () -> g.need(1, p, color), sizeM[p][color]);
        }
        g.setGauge(20, 30, 99);
        Check.due("need with 99 of yarn", () -> g.need(0, 1, 0), 81 * 99);
        Check.argument("need of color 4", () -> g.need(0, 0, 4));
        Check.argument("need of color -1", () -> g.need(0, 0, -1));
        Check.range("need of no size", () -> g.need(2, 0, 0));
        Check.range("need of size -1", () -> g.need(-1, 0, 0));
        Check.range("need of no piece", () -> g.need(0, 3, 0));
        Check.range("need of piece -1", () -> g.need(0, -1, 0));
        Check.range("no piece comes before the color", () -> g.need(0, 3, 4));
    }

    private static void lot() {
        KnitGrader g = Check.loaded(PIECES + "lot 3 9999;lot 0 1;lot 2 77;");
        int[][] due = {{3, 9999}, {0, 1}, {2, 77}};
        for (int i = 0; i < 6; i++) {
            int l = i / 2;
            int what = i % 2;
            Check.due("lot(" + l + ", " + what + ")", () -> g.lot(l, what), due[l][what]);
        }
        Check.argument("lot(0, 2)", () -> g.lot(0, 2));
        Check.argument("lot(0, -1)", () -> g.lot(0, -1));
        Check.range("lot(3, 0)", () -> g.lot(3, 0));
        Check.range("lot(-1, 0)", () -> g.lot(-1, 0));
        Check.range("no lot comes before what", () -> g.lot(3, 2));
    }

    /** Pieces of one row, each with a need of so many meters of color 1: 100 stitches of 10 millimeters are a meter. */
    private static KnitGrader rowsOf(int[] meters, String lots) {
        StringBuilder t = new StringBuilder("gauge 20 30 yarn 10;sizes s;measure m 500;measure e 1;");
        for (int i = 0; i < 4; i++) {
            t.append("measure m").append((char) ('a' + i)).append(' ').append(500 * (i + 1)).append(';');
        }
        for (int i = 0; i < meters.length; i++) {
            t.append("piece p").append((char) ('a' + i)).append(";cast m").append((char) ('a' + meters[i] - 1)).append(" color 1;end;");
        }
        return Check.loaded(t + lots);
    }

    private static String lots(int... meters) {
        StringBuilder t = new StringBuilder();
        for (int one : meters) {
            t.append("lot 1 ").append(one).append(';');
        }
        return t.toString();
    }

    private static void dealing(KnitGrader g, String what, int... lots) {
        for (int i = 0; i < lots.length; i++) {
            int piece = i;
            Check.due(what + ": lot of piece " + i, () -> g.dealt(0, piece, 1), lots[i]);
        }
    }

    private static void roomOfLots() {
        KnitGrader exact = rowsOf(new int[] {1}, lots(1));
        Check.due("a meter", () -> exact.need(0, 0, 1), 1000);
        dealing(exact, "a meter from a meter", 0);
        exact.setEase(0, 0, 3);
        Check.due("a stitch more", () -> exact.need(0, 0, 1), 1010);
        Check.missing("a stitch more", () -> exact.dealt(0, 0, 1));
        KnitGrader millimeter = Check.loaded("gauge 20 30 yarn 11;sizes s;measure m 455;piece p;cast m color 1;end;lot 1 1;");
        Check.due("a millimeter more", () -> millimeter.need(0, 0, 1), 1001);
        Check.missing("a millimeter more", () -> millimeter.dealt(0, 0, 1));
        KnitGrader both = rowsOf(new int[] {2, 3}, lots(5));
        dealing(both, "two pieces from just enough", 0, 0);
        both.setEase(0, 0, 3);
        Check.missing("two pieces from too little", () -> both.dealt(0, 1, 1));
        Check.missing("a piece takes all from one lot", () -> rowsOf(new int[] {3}, lots(2, 2, 2)).dealt(0, 0, 1));
        Check.missing("no lots", () -> rowsOf(new int[] {1}, "").dealt(0, 0, 1));
        Check.missing("lots of another color", () -> rowsOf(new int[] {1}, "lot 0 9;lot 2 9;lot 3 9;").dealt(0, 0, 1));
        dealing(rowsOf(new int[] {1}, "lot 0 9;lot 2 9;lot 1 9;lot 1 9;"), "the first of the color", 2);
        dealing(rowsOf(new int[] {3, 2, 4}, lots(9999)), "one large lot", 0, 0, 0);
    }

    private static void fewestLots() {
        dealing(rowsOf(new int[] {3, 2, 2}, lots(3, 4, 7)), "one lot", 2, 2, 2);
        dealing(rowsOf(new int[] {2, 2}, lots(2, 2, 4)), "one lot behind two", 2, 2);
        dealing(rowsOf(new int[] {3, 2, 2}, lots(3, 4, 6)), "two lots", 0, 1, 1);
        dealing(rowsOf(new int[] {2, 2, 2}, lots(2, 2, 2)), "three lots", 0, 1, 2);
        dealing(rowsOf(new int[] {1, 4, 3}, lots(1, 4, 3, 7)), "two lots instead of three", 0, 3, 3);
        Check.due("and their number", () -> rowsOf(new int[] {1, 4, 3}, lots(1, 4, 3, 7)).lotsUsed(0), 2);
    }

    private static void firstLots() {
        dealing(rowsOf(new int[] {3, 2, 2}, lots(5, 2, 5)), "the first lot for the second piece too", 0, 0, 1);
        dealing(rowsOf(new int[] {2, 2, 3}, lots(3, 4)), "not the first lot for the first piece", 1, 1, 0);
        dealing(rowsOf(new int[] {2, 3, 2}, lots(4, 3, 5)), "the lot of the first piece counts most", 0, 1, 0);
        dealing(rowsOf(new int[] {1, 2, 1, 2}, lots(3, 3, 3)), "four pieces", 0, 0, 1, 1);
        dealing(rowsOf(new int[] {2, 1, 1, 4}, lots(2, 4, 4)), "the rest goes behind", 1, 1, 1, 2);
        dealing(rowsOf(new int[] {4, 1}, lots(1, 4, 4)), "a later lot for the first", 1, 0);
        dealing(rowsOf(new int[] {1, 4}, lots(5, 5)), "alike lots", 0, 0);
        Check.missing("enough in all, but not by pieces", () -> rowsOf(new int[] {3, 3, 3}, lots(5, 4)).dealt(0, 0, 1));
    }

    private static void piecesWithoutNeed() {
        KnitGrader g = Check.loaded("gauge 20 30 yarn 10;sizes s;measure a 500;measure z 0;piece x;cast a color 0;end;piece y;cast a color 1;work z color 0;end;"
            + "piece z;cast a color 0;work a color 1;end;lot 0 1;lot 1 200;lot 0 1;");
        int[][] due = {{0, -1}, {-1, 1}, {2, 1}};
        for (int i = 0; i < 6; i++) {
            int p = i / 2;
            int color = i % 2;
            Check.due("dealt(0, " + p + ", " + color + ")", () -> g.dealt(0, p, color), due[p][color]);
        }
        Check.due("a color that nobody needs", () -> g.dealt(0, 1, 3), -1);
        g.removeLot(0);
        Check.missing("not dealt, for a piece that needs the color", () -> g.dealt(0, 2, 0));
        Check.missing("not dealt, for a piece that does not need it", () -> g.dealt(0, 1, 0));
        Check.due("another color is dealt", () -> g.dealt(0, 1, 1), 0);
    }

    private static void manyPieces() {
        // 13 meters take four lots; with lot 2 for the first piece these are the lots of 2, 3, 4 and 4 meters, all used up.
        dealing(rowsOf(new int[] {1, 2, 3, 4, 1, 2}, lots(1, 1, 2, 2, 3, 3, 4, 4, 1, 1)), "six pieces, ten lots", 2, 6, 4, 7, 2, 6);
        dealing(rowsOf(new int[] {4, 4, 4, 4, 4, 4}, lots(4, 3, 4, 3, 4, 4, 3, 4, 3, 4)), "a lot for each", 0, 2, 4, 5, 7, 9);
        dealing(rowsOf(new int[] {1, 1, 1, 1, 1, 1}, lots(1, 1, 1, 1, 1, 1, 1, 1, 1, 6)), "the last lot for all", 9, 9, 9, 9, 9, 9);
        Check.missing("one piece too many", () -> rowsOf(new int[] {4, 4, 4, 4, 4, 4}, lots(4, 3, 4, 3, 7, 4, 3, 4, 3, 3)).dealt(0, 0, 1));
    }

    private static void dealtExceptions() {
        KnitGrader g = Check.loaded(PIECES + "lot 0 50;lot 1 50;lot 2 50;");
        Check.state("a piece fails in size s", () -> g.dealt(0, 0, 1));
        Check.missing("nothing of color 3 in size m", () -> g.dealt(1, 0, 3));
        Check.due("color 0 in size m", () -> g.dealt(1, 2, 0), 0);
        Check.range("dealt of no size", () -> g.dealt(2, 0, 0));
        Check.range("dealt of size -1", () -> g.dealt(-1, 0, 0));
        Check.range("dealt of no piece", () -> g.dealt(1, 3, 0));
        Check.range("dealt of piece -1", () -> g.dealt(1, -1, 0));
        Check.argument("dealt of color 4", () -> g.dealt(1, 0, 4));
        Check.argument("dealt of color -1", () -> g.dealt(1, 0, -1));
        Check.range("no piece comes before the color", () -> g.dealt(0, 3, 4));
        Check.argument("the color comes before the failure", () -> g.dealt(0, 0, 4));
    }

    private static void lotsUsed() {
        KnitGrader g = Check.loaded(PIECES + "lot 0 50;lot 1 50;lot 2 50;lot 3 20;lot 3 50;");
        Check.due("a lot of each color", () -> g.lotsUsed(1), 4);
        g.removeLot(4);
        Check.missing("too little of color 3", () -> g.lotsUsed(1));
        g.addLot(3, 33);
        Check.due("two lots of color 3", () -> g.lotsUsed(1), 5);
        Check.state("a piece fails in size s", () -> g.lotsUsed(0));
        Check.range("lotsUsed(2)", () -> g.lotsUsed(2));
        Check.range("lotsUsed(-1)", () -> g.lotsUsed(-1));
        g.removeLot(4);
        Check.state("the failure comes before the lots", () -> g.lotsUsed(0));
    }

    private static void possible() {
        KnitGrader g = Check.loaded(PIECES + "lot 0 50;lot 1 50;lot 2 50;lot 3 50;");
        Check.due("a piece fails in size s", g::possible, 2);
        g.setEase(2, 0, 5);
        Check.due("81 stitches do not fail", g::possible, 1);
        g.setEase(2, 0, 0);
        g.removeLot(2);
        Check.due("no lots of color 2", g::possible, 0);
        KnitGrader six = Check.loaded("gauge 20 30 yarn 10;sizes a b c d e f;measure m 500 1000 1500 1000 1503 3000;piece x;cast m color 2;end;lot 2 2;lot 1 9999;lot 2 3;");
        Check.due("four of six sizes", six::possible, 15);
        six.addLot(2, 6);
        Check.due("all six sizes", six::possible, 63);
        Check.due("a new object", new KnitGrader()::possible, 3);
    }

    private static void possibleWithoutPieces() {
        KnitGrader g = Check.loaded("gauge 20 30 yarn 10;sizes a b c;");
        Check.due("nothing to knit", g::possible, 7);
        Check.due("no lots for it", () -> g.lotsUsed(2), 0);
    }
}
