/** The sentences of the chapter YARN AND LOTS that name an edge, and those of promises 25 to 29, one by one. */
public final class EdgesOfYarnTest {
    /** With this gauge 10 millimeters are a stitch, and a row. */
    private static final String TEN = "gauge 10 10 yarn 1;sizes s;";
    /** Size s fails with the second piece; color 3 has no lot; size m lacks nothing but that. */
    private static final String TEXT = "gauge 10 10 yarn 99;sizes s m;measure a 100 120;measure b 60 90;measure z 0 0;chart x kyt kkk;"
        + "piece p;cast a color 0;work b color 1;end;piece q;cast a color 2;work z color 2 chart x;end;piece r;cast b color 0;work z color 3;end;lot 0 9;lot 1 20;lot 2 5;";
    private static final int[] NOWHERE = {-1, Integer.MIN_VALUE, Integer.MAX_VALUE, 1 << 30, -(1 << 30), 1 << 28};

    private EdgesOfYarnTest() {
    }

    public static void main(String[] args) {
        stitchesBehindRows();
        rowsOfTheColor();
        needAbove0();
        oneLotForAPiece();
        roomOfALot();
        roomForPiecesTogether();
        greatNeeds();
        fewestLots();
        firstPieceFirst();
        onlyPiecesThatNeed();
        nothingDealt();
        need();
        needOfAFailure();
        needOutside();
        lot();
        lotOutside();
        dealt();
        dealtToNone();
        dealtInAFailure();
        dealtMissing();
        dealtOutside();
        lotsUsed();
        lotsUsedInAFailure();
        lotsUsedMissing();
        lotsUsedOutside();
        possible();
        eachSizeAlone();
        notPossible();
        Check.end("EdgesOfYarnTest");
    }

    private static KnitGrader text() {
        KnitGrader g = Check.loaded(TEXT);
        g.setValue(0, 0, 90);
        g.save(0);
        g.undo();
        g.addLot(2, 1);
        Check.write(g, "b");
        return g;
    }

    private static void refused(String what, String exception, Check.CallOf call) {
        Check.refused(what, exception, EdgesOfYarnTest::text, call);
    }

    private static void stitchesBehindRows() {
        Check.sentence("A row takes yarn for the stitches that there are behind it");
        String measures = "measure a 60;measure b 90;measure l 30;";
        KnitGrader up = Check.loaded(TEN + measures + "piece p;cast a color 0;shape b over l per 1 color 1;end;");
        Check.due("an increase", () -> up.need(0, 0, 1), 7 + 8 + 9);
        KnitGrader down = Check.loaded(TEN + measures + "piece p;cast b color 0;shape a over l per 3 color 1;end;");
        Check.due("a decrease in the last row", () -> down.need(0, 0, 1), 9 + 9 + 6);
        KnitGrader chart = Check.loaded(TEN + measures + "chart x kyy kkk kkk s;piece p;cast a color 0;work l color 1 chart x;end;");
        Check.due("a chart", () -> chart.need(0, 0, 1), 18 + 18 + 18 + 6);
        Check.due("the cast", () -> chart.need(0, 0, 0), 6);
        KnitGrader one = Check.loaded(TEN + measures + "chart x kpk;piece p;cast a color 0;work l color 1 chart x;end;");
        Check.due("a chart of one row", () -> one.need(0, 0, 1), 18);
        KnitGrader eight = Check.loaded(TEN + measures + "chart x k k k k k k yk t;chart y kkk;piece p;cast a color 0;work b color 1 chart x;end;");
        Check.due("a chart of 8 rows before another one", () -> eight.need(0, 0, 1), 6 * 9);
    }

    private static void rowsOfTheColor() {
        Check.sentence("in the color of its part. The need of a piece for a color in a size is the millimeters of yarn for all its rows of this color");
        KnitGrader g = Check.loaded("gauge 10 10 yarn 7;sizes s m;measure a 60 90;measure l 30 20;piece p;cast a color 3;work l color 0;work l color 3;shape a over l per 1 color 0;work l color 2;end;");
        int[][] due = {{7 * 36, 0, 7 * 18, 7 * 24}, {7 * 36, 0, 7 * 18, 7 * 27}};
        for (int i = 0; i < 8; i++) {
            int at = i;
            Check.due("need(" + i / 4 + ", 0, " + i % 4 + ")", () -> g.need(at / 4, 0, at % 4), due[i / 4][i % 4]);
        }
        for (int yarn : new int[] {1, 99}) {
            g.setGauge(10, 10, yarn);
            Check.due("with " + yarn + " of yarn", () -> g.need(1, 0, 3), yarn * 27);
        }
    }

    private static void needAbove0() {
        Check.sentence("it needs the color if that is above 0");
        KnitGrader g = Check.loaded(TEN + "measure a 0;measure z 0;piece p;cast a color 1;work z color 2;shape a over z per 1 color 3;end;lot 1 1;");
        int[] due = {0, 1, 0, 0};
        int[] lots = {-1, 0, -1, -1};
        for (int color = 0; color < 4; color++) {
            int one = color;
            Check.due("need of color " + color, () -> g.need(0, 0, one), due[color]);
            Check.due("lot of color " + color, () -> g.dealt(0, 0, one), lots[color]);
        }
        Check.due("one lot", () -> g.lotsUsed(0), 1);
        g.removeLot(0);
        Check.missing("a millimeter needs a lot", () -> g.dealt(0, 0, 1));
        Check.due("no millimeter needs none", () -> g.dealt(0, 0, 2), -1);
    }

    /** Pieces of one row, each with a need of so many meters of color 1: 100 stitches of 10 millimeters are a meter. */
    private static KnitGrader pieces(int... meters) {
        StringBuilder t = new StringBuilder("gauge 20 30 yarn 10;sizes s;");
        for (int i = 1; i <= 6; i++) {
            t.append("measure m").append((char) ('a' + i)).append(' ').append(500 * i).append(';');
        }
        for (int i = 0; i < meters.length; i++) {
            t.append("piece p").append((char) ('a' + i)).append(";cast m").append((char) ('a' + meters[i])).append(" color 1;end;");
        }
        return Check.loaded(t.toString());
    }

    private static KnitGrader with(KnitGrader g, int... meters) {
        for (int one : meters) {
            g.addLot(1, one);
        }
        return g;
    }

    private static void dealing(KnitGrader g, int... lots) {
        StringBuilder got = new StringBuilder();
        StringBuilder want = new StringBuilder();
        StringBuilder room = new StringBuilder();
        for (int i = 0; i < g.count(4); i++) {
            room.append(' ').append(g.lot(i, 1));
        }
        for (int piece = 0; piece < lots.length; piece++) {
            int one = piece;
            got.append(' ').append(Check.told(() -> g.dealt(0, one, 1)));
            want.append(' ').append(lots[piece]);
        }
        Check.same("dealing of" + room, got.toString(), want.toString());
        Check.due("its lots", () -> g.lotsUsed(0), java.util.Arrays.stream(lots).filter(lot -> lot >= 0).distinct().count());
    }

    private static void noDealing(KnitGrader g) {
        int count = g.count(3);
        for (int piece = 0; piece < count; piece++) {
            int one = piece;
            Check.missing("dealt to piece " + piece, () -> g.dealt(0, one, 1));
        }
        Check.missing("lotsUsed", () -> g.lotsUsed(0));
        Check.due("possible", g::possible, 0);
    }

    private static void oneLotForAPiece() {
        Check.sentence("each piece that needs the color gets one lot of this color (all that it needs of the color is from this lot)");
        dealing(with(pieces(3), 3), 0);
        noDealing(with(pieces(3), 2, 2, 2));
        noDealing(with(pieces(2, 2, 2), 3, 3));
        noDealing(pieces(1));
        noDealing(with(pieces(1, 3), 2, 2, 2, 2));
        KnitGrader other = pieces(1);
        other.addLot(0, 9999);
        other.addLot(2, 9999);
        other.addLot(3, 9999);
        noDealing(other);
        other.addLot(1, 1);
        dealing(other, 3);
    }

    private static void roomOfALot() {
        Check.sentence("the needs of the pieces with the same lot are at most 1000 * its meters: of one piece");
        int[][] needs = {{100, 10, 1000}, {91, 11, 1001}, {111, 9, 999}, {1, 1, 1}};
        for (int[] one : needs) {
            KnitGrader g = Check.loaded("gauge 10 10 yarn " + one[1] + ";sizes s;measure a " + 10 * one[0] + ";piece p;cast a color 1;end;lot 1 1;");
            Check.due("need", () -> g.need(0, 0, 1), one[2]);
            Check.due("dealt for " + one[2], () -> g.dealt(0, 0, 1), one[2] > 1000 ? Check.MISSING : 0);
            Check.due("possible with " + one[2], g::possible, one[2] > 1000 ? 0 : 1);
        }
        KnitGrader most = Check.loaded("gauge 50 10 yarn 99;sizes s;measure a 2000;measure l 1000;piece p;cast a color 1;work l color 1;end;lot 1 9998;lot 1 9999;");
        Check.due("need of the greatest lot", () -> most.need(0, 0, 1), 9999000);
        Check.due("dealt from the greatest lot", () -> most.dealt(0, 0, 1), 1);
        most.setEase(0, 0, 2);
        Check.due("a stitch more", () -> most.need(0, 0, 1), 9999000 + 101 * 99);
        Check.missing("not dealt any more", () -> most.dealt(0, 0, 1));
    }

    private static void roomForPiecesTogether() {
        Check.sentence("the needs of the pieces with the same lot are together at most 1000 * its meters");
        KnitGrader g = Check.loaded("gauge 20 10 yarn 1;sizes s;measure a 2500;piece p;cast a color 1;end;piece q;cast a color 1;end;lot 1 1;");
        Check.due("500 and 500", () -> g.dealt(0, 1, 1), 0);
        Check.due("one lot", () -> g.lotsUsed(0), 1);
        g.setEase(1, 0, 5);
        Check.due("501", () -> g.need(0, 1, 1), 501);
        Check.missing("500 and 501", () -> g.dealt(0, 0, 1));
        g.setEase(0, 0, -5);
        Check.due("499 and 501", () -> g.dealt(0, 0, 1), 0);
        dealing(with(pieces(1, 2, 3, 1, 2, 3), 12), 0, 0, 0, 0, 0, 0);
        noDealing(with(pieces(1, 2, 3, 1, 2, 3), 11));
    }

    /** A need of more than 2 to the power of 32, of which the low 32 bits alone would fit into the lot. */
    private static void greatNeeds() {
        Check.sentence("Returns the millimeters of yarn (a long)");
        KnitGrader g = Check.loaded("gauge 99 99 yarn 99;sizes s;measure a 3000;measure b 2607;piece p;cast a plus 30 color 1;" + "work a color 1;".repeat(4) + "work b color 1;end;lot 1 9999;");
        Check.due("need", () -> g.need(0, 0, 1), 4295214000L);
        Check.missing("no lot for it", () -> g.dealt(0, 0, 1));
        Check.missing("no lots for it", () -> g.lotsUsed(0));
        Check.due("not possible", g::possible, 0);
        KnitGrader most = Check.loaded("gauge 99 99 yarn 99;sizes s;measure a 3000;chart x kyyyyyyyyyyy ssss tt t;" + "piece p;cast a plus 999 color 3;" + "work a color 3 chart x;".repeat(9) + "end;");
        Check.due("need of the greatest piece", () -> most.need(0, 0, 3), 99L * 3959 * (1 + 9L * 743 * 19));
    }

    private static void fewestLots() {
        Check.sentence("Of all such dealings, the one with the fewest lots counts");
        dealing(with(pieces(1, 1), 1, 1, 2), 2, 2);
        dealing(with(pieces(1, 1), 1, 1, 1), 0, 1);
        dealing(with(pieces(1, 2, 3), 1, 2, 3, 6), 3, 3, 3);
        dealing(with(pieces(1, 2, 3), 1, 2, 3, 5), 0, 3, 3);
        dealing(with(pieces(1, 2, 3), 1, 2, 3), 0, 1, 2);
        dealing(with(pieces(3, 2, 2), 3, 4, 7), 2, 2, 2);
        dealing(with(pieces(3, 2, 2), 3, 4, 6), 0, 1, 1);
        dealing(with(pieces(2, 2, 3, 3), 2, 2, 3, 3, 5, 5), 4, 5, 4, 5);
        dealing(with(pieces(6, 5, 4, 3, 2, 1), 1, 2, 3, 4, 5, 6, 7, 7, 7), 6, 7, 8, 8, 7, 6);
        dealing(with(pieces(1, 1, 1, 1, 1, 1), 1, 1, 1, 1, 1, 1, 1, 1, 1, 6), 9, 9, 9, 9, 9, 9);
        dealing(with(pieces(6, 6, 6, 6, 6, 6), 6, 5, 6, 6, 5, 6, 5, 6, 5, 6), 0, 2, 3, 5, 7, 9);
    }

    private static void firstPieceFirst() {
        Check.sentence("of several the first one, if they are compared by the lot of the first piece that needs the color, then by that of the second one, and so on");
        dealing(with(pieces(1), 1, 1), 0);
        dealing(with(pieces(2), 1, 2, 2), 1);
        dealing(with(pieces(1, 1), 2, 2), 0, 0);
        dealing(with(pieces(2, 1), 1, 2, 2), 1, 0);
        dealing(with(pieces(1, 2), 2, 1), 1, 0);
        dealing(with(pieces(1, 1, 1), 1, 1, 2), 0, 2, 2);
        dealing(with(pieces(1, 1, 1), 2, 1), 0, 0, 1);
        dealing(with(pieces(1, 1, 1), 1, 2), 0, 1, 1);
        dealing(with(pieces(2, 1, 1), 2, 3, 1), 0, 1, 1);
        dealing(with(pieces(1, 2, 1), 2, 2, 2), 0, 1, 0);
        dealing(with(pieces(1, 2, 2, 1), 3, 3), 0, 0, 1, 1);
    }

    private static void onlyPiecesThatNeed() {
        Check.sentence("the first piece that needs the color");
        KnitGrader g = Check.loaded("gauge 20 30 yarn 10;sizes s;measure a 500;measure b 1000;measure z 0;piece u;cast b color 0;work z color 1;end;piece v;cast b color 1;end;piece w;cast a color 0;end;"
            + "piece x;cast a color 1;end;lot 1 1;lot 0 9;lot 1 2;lot 1 2;");
        int[][] due = {{1, -1}, {-1, 2}, {1, -1}, {-1, 0}};
        for (int i = 0; i < 8; i++) {
            int at = i;
            Check.due("dealt(0, " + i / 2 + ", " + i % 2 + ")", () -> g.dealt(0, at / 2, at % 2), due[i / 2][i % 2]);
        }
    }

    private static void nothingDealt() {
        Check.sentence("In a size in which some piece fails, nothing is dealt.");
        KnitGrader g = text();
        Check.due("the second piece fails in size s", () -> g.failure(0, 1), 13);
        for (int i = 0; i < 12; i++) {
            int at = i;
            Check.state("dealt(0, " + i / 4 + ", " + i % 4 + ")", () -> g.dealt(0, at / 4, at % 4));
        }
        Check.state("lotsUsed(0)", () -> g.lotsUsed(0));
        Check.due("size m alone", g::possible, 2);
        Check.due("dealt in size m", () -> g.dealt(1, 0, 1), 1);
    }

    private static void need() {
        Check.sentence("Returns the need of a piece for a color. color: 0 to 3");
        KnitGrader g = text();
        int[][] due = {{10, 60, 0, 0}, {0, 0, 10, 0}, {6, 0, 0, 0}, {12, 108, 0, 0}, {0, 0, 12, 0}, {9, 0, 0, 0}};
        for (int i = 0; i < 24; i++) {
            int at = i;
            Check.due("need(" + i / 12 + ", " + i / 4 % 3 + ", " + i % 4 + ")", () -> g.need(at / 12, at / 4 % 3, at % 4), 99 * due[i / 4][i % 4]);
        }
    }

    private static void needOfAFailure() {
        Check.sentence("(for the rows before the part with which it fails, if it fails)");
        KnitGrader g = Check.loaded(TEN + "measure a 60;measure b 70;measure l 30;measure z 0;piece p;cast a color 0;work l color 1;shape b over z per 1 color 1;work l color 2;work l color 1;end;");
        int[] due = {6, 18, 0, 0};
        for (int color = 0; color < 4; color++) {
            int one = color;
            Check.due("need of color " + color, () -> g.need(0, 0, one), due[color]);
        }
    }

    private static void needOutside() {
        Check.sentence("need: Throws IndexOutOfBoundsException if there is no such size or piece / IllegalArgumentException if color is out of range");
        int[][] places = {{2, 0}, {0, 3}, {6, 0}, {0, 6}, {-1, 2}, {1, -1}};
        for (int[] one : places) {
            for (int color : new int[] {0, 4, -1}) {
                refused("need of " + one[0] + ", " + one[1], Check.RANGE, g -> g.need(one[0], one[1], color));
            }
        }
        for (int number : NOWHERE) {
            refused("need of size " + number, Check.RANGE, g -> g.need(number, 0, 0));
            refused("need of piece " + number, Check.RANGE, g -> g.need(0, number, 0));
        }
        for (int color : new int[] {-1, 4, Integer.MIN_VALUE, Integer.MAX_VALUE}) {
            refused("need of color " + color, Check.ARGUMENT, g -> g.need(0, 1, color));
        }
    }

    private static void lot() {
        Check.sentence("Reports on a lot. what: 0 its color, 1 its meters");
        KnitGrader g = Check.loaded("gauge 20 30 yarn 10;sizes s;lot 3 1;lot 0 9999;lot 2 50;");
        int[] due = {3, 1, 0, 9999, 2, 50};
        for (int i = 0; i < 6; i++) {
            int at = i;
            Check.due("lot(" + i / 2 + ", " + i % 2 + ")", () -> g.lot(at / 2, at % 2), due[i]);
        }
    }

    private static void lotOutside() {
        Check.sentence("lot: Throws IndexOutOfBoundsException if there is no such lot / IllegalArgumentException if what is out of range");
        for (int what : new int[] {0, 1, 2, -1}) {
            refused("lot(4, " + what + ")", Check.RANGE, g -> g.lot(4, what));
            refused("lot(10, " + what + ")", Check.RANGE, g -> g.lot(10, what));
            for (int number : NOWHERE) {
                refused("lot(" + number + ", " + what + ")", Check.RANGE, g -> g.lot(number, what));
            }
        }
        for (int what : new int[] {-1, 2, Integer.MIN_VALUE, Integer.MAX_VALUE}) {
            refused("lot(3, " + what + ")", Check.ARGUMENT, g -> g.lot(3, what));
        }
        Check.due("the last lot", () -> text().lot(3, 0), 2);
        KnitGrader none = Check.loaded("gauge 20 30 yarn 10;sizes s;");
        Check.range("there is no lot", () -> none.lot(0, 0));
        KnitGrader removed = new KnitGrader();
        removed.removeLot(0);
        Check.range("the lot is removed", () -> removed.lot(0, 0));
    }

    private static void dealt() {
        Check.sentence("Returns the lot that is dealt to a piece for a color.");
        KnitGrader g = text();
        int[][] due = {{0, 1, -1, -1}, {-1, -1, 2, -1}, {0, -1, -1, -1}};
        for (int i = 0; i < 12; i++) {
            int at = i;
            Check.due("dealt(1, " + i / 4 + ", " + i % 4 + ")", () -> g.dealt(1, at / 4, at % 4), due[i / 4][i % 4]);
        }
        g.removeLot(0);
        g.addLot(0, 3);
        Check.due("numbers as they are now", () -> g.dealt(1, 0, 1), 0);
        Check.due("the lot that is new", () -> g.dealt(1, 2, 0), 3);
    }

    private static void dealtToNone() {
        Check.sentence("NONE if the piece does not need the color");
        KnitGrader g = text();
        Check.due("NONE", () -> g.dealt(1, 1, 0), KnitGrader.NONE);
        Check.due("a color that no piece needs, and that has no lots", () -> g.dealt(1, 0, 3), KnitGrader.NONE);
        Check.due("a color in no rows", () -> g.dealt(1, 2, 3), KnitGrader.NONE);
        KnitGrader lots = new KnitGrader();
        lots.addLot(2, 5);
        Check.due("a color that no piece needs, and that has a lot", () -> lots.dealt(0, 0, 2), KnitGrader.NONE);
    }

    private static void dealtInAFailure() {
        Check.sentence("dealt: Throws IllegalStateException if some piece fails in this size");
        for (int piece = 0; piece < 3; piece++) {
            for (int color = 0; color < 4; color++) {
                int one = piece;
                int other = color;
                refused("dealt(0, " + piece + ", " + color + ")", Check.STATE, g -> g.dealt(0, one, other));
            }
        }
        Check.Start without = () -> {
            KnitGrader g = text();
            for (int i = 0; i < 4; i++) {
                g.removeLot(0);
            }
            return g;
        };
        Check.refused("dealt(0, 0, 0) also without any lot", Check.STATE, without, g -> g.dealt(0, 0, 0));
    }

    private static KnitGrader tooLittle() {
        KnitGrader g = text();
        g.removeLot(0);
        g.addLot(0, 2);
        return g;
    }

    private static void dealtMissing() {
        Check.sentence("Throws NoSuchElementException if the lots of the color cannot be dealt (also if this piece does not need it)");
        for (int piece = 0; piece < 3; piece++) {
            int one = piece;
            Check.refused("dealt(1, " + piece + ", 0)", Check.MISSING, EdgesOfYarnTest::tooLittle, g -> g.dealt(1, one, 0));
        }
        Check.due("another color", () -> tooLittle().dealt(1, 0, 1), 0);
        Check.due("enough with a meter more", () -> {
            KnitGrader g = tooLittle();
            g.addLot(0, 1);
            return g.dealt(1, 0, 0);
        }, 3);
    }

    private static void dealtOutside() {
        Check.sentence("dealt: Throws IndexOutOfBoundsException if there is no such size or piece / IllegalArgumentException if color is out of range");
        int[][] places = {{2, 0}, {0, 3}, {1, 3}, {-1, 0}, {1, -1}, {6, 1}, {1, 6}};
        for (int[] one : places) {
            for (int color : new int[] {0, 4, -1}) {
                refused("dealt of " + one[0] + ", " + one[1], Check.RANGE, g -> g.dealt(one[0], one[1], color));
                Check.refused("dealt without the lots of " + one[0] + ", " + one[1], Check.RANGE, EdgesOfYarnTest::tooLittle, g -> g.dealt(one[0], one[1], color));
            }
        }
        for (int number : NOWHERE) {
            refused("dealt of size " + number, Check.RANGE, g -> g.dealt(number, 0, 0));
            refused("dealt of piece " + number, Check.RANGE, g -> g.dealt(1, number, 0));
        }
        for (int color : new int[] {-1, 4, Integer.MIN_VALUE, Integer.MAX_VALUE}) {
            refused("dealt of color " + color, Check.ARGUMENT, g -> g.dealt(1, 0, color));
            refused("dealt of color " + color + " in a failure", Check.ARGUMENT, g -> g.dealt(0, 0, color));
            Check.refused("dealt of color " + color + " without the lots", Check.ARGUMENT, EdgesOfYarnTest::tooLittle, g -> g.dealt(1, 0, color));
        }
    }

    private static void lotsUsed() {
        Check.sentence("Returns the number of different lots that are dealt for all colors in a size.");
        Check.due("a lot of each of three colors", () -> text().lotsUsed(1), 3);
        Check.due("a new object", () -> new KnitGrader().lotsUsed(0), 1);
        Check.due("no pieces", () -> Check.loaded("gauge 20 30 yarn 10;sizes s;lot 0 5;").lotsUsed(0), 0);
        Check.due("one lot for six pieces", () -> with(pieces(1, 1, 1, 1, 1, 1), 6).lotsUsed(0), 1);
        Check.due("six lots for six pieces", () -> with(pieces(1, 1, 1, 1, 1, 1), 1, 1, 1, 1, 1, 1).lotsUsed(0), 6);
        StringBuilder t = new StringBuilder("gauge 20 10 yarn 10;sizes s;measure a 500;measure b 10;");
        for (int i = 0; i < 5; i++) {
            t.append("piece p").append((char) ('a' + i)).append(";cast a color ").append(i % 2).append(";work b color ").append(2 + i % 2).append(";end;");
        }
        for (int i = 0; i < 10; i++) {
            t.append("lot ").append(new int[] {0, 1, 0, 1, 0, 2, 3, 2, 3, 2}[i]).append(" 1;");
        }
        Check.due("ten lots of four colors", () -> Check.loaded(t.toString()).lotsUsed(0), 10);
    }

    private static void lotsUsedInAFailure() {
        Check.sentence("lotsUsed: Throws IllegalStateException if some piece fails in this size");
        refused("lotsUsed(0)", Check.STATE, g -> g.lotsUsed(0));
        Check.refused("lotsUsed(0) also without the lots", Check.STATE, EdgesOfYarnTest::tooLittle, g -> g.lotsUsed(0));
    }

    private static void lotsUsedMissing() {
        Check.sentence("lotsUsed: Throws NoSuchElementException if the lots of some color cannot be dealt");
        Check.refused("lotsUsed(1)", Check.MISSING, EdgesOfYarnTest::tooLittle, g -> g.lotsUsed(1));
        for (int lot = 0; lot < 4; lot++) {
            KnitGrader g = Check.loaded(TEN + "measure a 100;piece p;cast a color 0;work a color 1;work a color 2;work a color 3;end;lot 0 1;lot 1 1;lot 2 1;lot 3 1;");
            Check.due("four lots", () -> g.lotsUsed(0), 4);
            g.removeLot(lot);
            Check.missing("without the lot of color " + lot, () -> g.lotsUsed(0));
        }
    }

    private static void lotsUsedOutside() {
        Check.sentence("lotsUsed: Throws IndexOutOfBoundsException if there is no such size");
        refused("lotsUsed(2)", Check.RANGE, g -> g.lotsUsed(2));
        refused("lotsUsed(6)", Check.RANGE, g -> g.lotsUsed(6));
        for (int number : NOWHERE) {
            refused("lotsUsed(" + number + ")", Check.RANGE, g -> g.lotsUsed(number));
        }
    }

    private static void possible() {
        Check.sentence("Returns a bit set (bit k for size k).");
        for (int size = 0; size < 6; size++) {
            StringBuilder t = new StringBuilder("gauge 20 30 yarn 10;sizes a b c d e f;measure m");
            for (int i = 0; i < 6; i++) {
                t.append(i == size ? " 500" : " 503");
            }
            KnitGrader g = Check.loaded(t + ";piece p;cast m color 0;end;lot 0 1;");
            Check.due("size " + size + " alone", g::possible, 1 << size);
            g.addLot(0, 2);
            Check.due("all six", g::possible, 63);
        }
        Check.due("no pieces in six sizes", () -> Check.loaded("gauge 20 30 yarn 10;sizes a b c d e f;").possible(), 63);
        Check.due("no pieces in one size", () -> Check.loaded("gauge 20 30 yarn 10;sizes a;").possible(), 1);
    }

    private static void eachSizeAlone() {
        Check.sentence("(for each size alone)");
        Check.due("a lot that is used up in each size", () -> Check.loaded("gauge 20 30 yarn 10;sizes a b c;measure m 500 500 500;piece p;cast m color 0;end;lot 0 1;").possible(), 7);
    }

    private static void notPossible() {
        Check.sentence("Returns the set of the sizes that can be knitted: in which no piece fails and the lots of all colors can be dealt");
        KnitGrader g = text();
        Check.due("a failure in size s", g::possible, 2);
        for (int color = 0; color < 3; color++) {
            KnitGrader without = text();
            if (color == 2) {
                without.removeLot(3);
            }
            without.removeLot(color);
            Check.due("without the lots of color " + color, without::possible, 0);
        }
        Check.due("with too little of a color", () -> tooLittle().possible(), 0);
        KnitGrader last = Check.loaded(TEN + "measure a 50;measure z 0;chart x kk;piece p;cast a color 0;end;piece q;cast a color 0;work z color 0 chart x;end;lot 0 9;");
        Check.due("the last piece fails", last::possible, 0);
        last.setEase(1, 0, 10);
        Check.due("the last piece does not fail", last::possible, 1);
        last.setEase(0, 0, 15);
        Check.due("the first piece has no chart", last::possible, 1);
    }
}
