/** Promises 1 to 7: a new object, the text buffer, load(), its errors, and find(). */
public final class TextTest {
    private static final String HEAD = "gauge 20 30 yarn 10;sizes s m;";
    private static final String TABLE = HEAD + "measure hip 400 450;measure long 100 120;";
    private static final String CHARTED = TABLE + "chart a kyt kkk;";
    private static final String CAST = CHARTED + "piece p;cast hip color 0;";

    private TextTest() {
    }

    public static void main(String[] args) {
        newObject();
        append();
        truncate();
        load();
        loadKeepsAllAfterAnError();
        longTexts();
        wrongTokens();
        wrongTokensInPieces();
        names();
        numbers();
        takenAndUnknownNames();
        noRoom();
        chartStitches();
        leftmostError();
        find();
        findByteByByte();
        Check.end("TextTest");
    }

    private static void fault(int code, String marked) {
        Check.faultAt(code, marked);
    }

    private static void newObject() {
        KnitGrader g = new KnitGrader();
        int[] counts = {2, 2, 0, 1, 1, 20, 30, 10, 0};
        for (int what = 0; what < counts.length; what++) {
            int asked = what;
            Check.due("new: count(" + what + ")", () -> g.count(asked), counts[what]);
        }
        int[][] values = {{400, 450}, {100, 120}};
        for (int i = 0; i < 4; i++) {
            int m = i / 2;
            int s = i % 2;
            Check.due("new: value(" + m + ", " + s + ")", () -> g.value(m, s), values[m][s]);
        }
        int[][] facts = {{0, 0, 0, 0, 1, 0, -1, 0, -1}, {1, 0, -1, 0, 0, 0, 1, 0, -1}};
        for (int i = 0; i < 18; i++) {
            int part = i / 9;
            int what = i % 9;
            Check.due("new: part(0, " + part + ", " + what + ")", () -> g.part(0, part, what), facts[part][what]);
        }
        Check.due("new: lot color", () -> g.lot(0, 0), 0);
        Check.due("new: lot meters", () -> g.lot(0, 1), 100);
        Check.due("new: error code", g::errorCode, 0);
        Check.due("new: error position", g::errorPosition, KnitGrader.NONE);
        Check.range("new: the buffer is empty", () -> g.truncate(1));
        String[] names = {"s", "m", "hip", "long", "back"};
        int[] kinds = {0, 0, 1, 1, 3};
        int[] numbers = {0, 1, 0, 1, 0};
        for (int i = 0; i < names.length; i++) {
            int kind = kinds[i];
            Check.write(g, names[i]);
            Check.due("new: find " + names[i], () -> g.find(kind), numbers[i]);
        }
        Check.state("new: nothing can be undone", g::undo);
        Check.missing("new: slot 0 is empty", () -> g.differences(0));
        Check.missing("new: slot 1 is empty", () -> g.differences(1));
    }

    private static void append() {
        KnitGrader g = new KnitGrader();
        for (int length = 20; length <= 1500; length += 20) {
            Check.due("append to " + length, () -> g.append(1, 2, 3, 4, 5), length);
        }
        Check.state("append beyond 1500", () -> g.append(1, 2, 3, 4, 5));
        Check.due("a refused append changes nothing", () -> g.truncate(1500), 1500);
        Check.due("truncate to 1481", () -> g.truncate(1481), 1481);
        Check.state("append to 1501", () -> g.append(1, 2, 3, 4, 5));
        Check.due("truncate to 1480", () -> g.truncate(1480), 1480);
        Check.due("append to just 1500", () -> g.append(1, 2, 3, 4, 5), 1500);
        KnitGrader order = Check.loaded(HEAD + "measure abcdefgh 1 2;measure mnop 3 4;measure uvwx 3 4;");
        order.append(0, 0, 0, 0x6d6e6f70, 0x20202020);
        order.truncate(0);
        order.append(0x61626364, 0x65666768, 0, 0, 0);
        order.truncate(8);
        Check.due("the bytes of a and b, the most significant first", () -> order.find(1), 0);
        wholeWord(order);
    }

    /** A text whose every byte comes from another place of one append: the row of a chart over c, d and e. */
    private static void wholeWord(KnitGrader g) {
        g.append(0x67617567, 0x65203520, 0x35207961, 0x726e2031, 0x3b736978);
        g.truncate(17);
        g.append(0x73697a65, 0x73206120, 0x62206320, 0x64206520, 0x663b2020);
        Check.due("a text of two appends", g::load, 0);
        Check.due("its sizes", () -> g.count(0), 6);
        g.append(0x66000000, 0, 0, 0, 0);
        g.truncate(1);
        Check.due("its last size", () -> g.find(0), 5);
    }

    private static void truncate() {
        KnitGrader g = new KnitGrader();
        Check.due("truncate the empty buffer", () -> g.truncate(0), 0);
        Check.range("truncate(-1)", () -> g.truncate(-1));
        Check.range("truncate(1) of the empty buffer", () -> g.truncate(1));
        Check.range("truncate to the least number", () -> g.truncate(Integer.MIN_VALUE));
        Check.range("truncate to the greatest number", () -> g.truncate(Integer.MAX_VALUE));
        g.append(0x68697068, 0x69702020, 0, 0, 0);
        Check.range("truncate(21) of 20", () -> g.truncate(21));
        Check.due("truncate(20) of 20", () -> g.truncate(20), 20);
        Check.due("truncate(3)", () -> g.truncate(3), 3);
        Check.range("truncate(4) of 3", () -> g.truncate(4));
        Check.due("what is left", () -> g.find(1), 0);
    }

    private static void load() {
        KnitGrader g = new KnitGrader();
        g.addLot(1, 5);
        g.save(0);
        g.save(1);
        Check.write(g, "gauge");
        Check.argument("a text with an error", g::load);
        Check.due("its code", g::errorCode, 1);
        Check.due("its position", g::errorPosition, 5);
        String text = CHARTED + "piece p;cast hip color 0;end;piece q;cast hip plus 20 by 4 and 2 color 3;work long color 2 chart a;"
            + "shape hip minus 30 by 5 over long per 4 color 1;end;lot 3 9999;lot 0 1;";
        Check.write(g, text);
        Check.due("a good text", g::load, 2);
        Check.due("no error code any more", g::errorCode, 0);
        Check.due("no error position any more", g::errorPosition, KnitGrader.NONE);
        Check.state("load: nothing can be undone", g::undo);
        Check.due("load: count of undos", () -> g.count(8), 0);
        Check.missing("load: slot 0 is empty", Check.done(() -> g.restore(0)));
        Check.missing("load: slot 1 is empty", Check.done(() -> g.restore(1)));
        Check.range("load: the buffer is empty", () -> g.truncate(1));
        int[][] facts = {{0, 3, 0, 20, 4, 2, -1, 0, -1}, {1, 2, -1, 0, 0, 0, 1, 0, 0}, {2, 1, 0, -30, 5, 0, 1, 4, -1}};
        for (int i = 0; i < 27; i++) {
            int part = i / 9;
            int what = i % 9;
            Check.due("load: part(1, " + part + ", " + what + ")", () -> g.part(1, part, what), facts[part][what]);
        }
        Check.due("load: lots", () -> g.count(4), 2);
        Check.due("load: meters", () -> g.lot(0, 1), 9999);
        Check.argument("load of the empty buffer", g::load);
        Check.due("its position is the end", g::errorPosition, 0);
        Check.due("pieces are still there", () -> g.count(3), 2);
        Check.write(g, "gauge5 99yarn99;sizes abcdefgh\n;lot\n3 0001;\n ");
        Check.due("a text without pieces, blanks where they may be", g::load, 0);
        Check.due("its sizes", () -> g.count(0), 1);
        Check.due("its measures", () -> g.count(1), 0);
        Check.due("its charts", () -> g.count(2), 0);
        Check.due("its meters", () -> g.lot(0, 1), 1);
    }

    private static void loadKeepsAllAfterAnError() {
        KnitGrader g = new KnitGrader();
        g.addLot(1, 5);
        g.save(1);
        g.setGauge(25, 40, 7);
        Check.write(g, CHARTED + "piece p;cast long plus 7 color 0;end;piece q;cast hip color 0;work long color 9");
        Check.argument("an error near the end", g::load);
        Check.due("pieces stay", () -> g.count(3), 1);
        Check.due("charts stay", () -> g.count(2), 0);
        Check.due("gauge stays", () -> g.count(5), 25);
        Check.due("ease stays", () -> g.part(0, 0, 3), 0);
        Check.due("undos stay", () -> g.count(8), 2);
        Check.due("slots stay", () -> g.differences(1), 2);
        Check.due("undo still works", g::undo, 1);
        Check.due("undo brings the gauge back", () -> g.count(5), 20);
    }

    private static void longTexts() {
        StringBuilder t = new StringBuilder("gauge 99 5 yarn 1;sizes a b c d e f;");
        for (int i = 0; i < 8; i++) {
            t.append("measure m").append((char) ('a' + i)).append(" 1 2 3 4 5 ").append(2993 + i).append(';');
        }
        for (int i = 0; i < 4; i++) {
            t.append("chart c").append((char) ('a' + i)).append(" k p k p k p k p;");
        }
        for (int i = 0; i < 6; i++) {
            t.append("piece p").append((char) ('a' + i)).append(";cast ma color 3;");
            for (int part = 1; part < (i < 3 ? 10 : 1); part++) {
                t.append("work mh color 3;");
            }
            t.append("end;");
        }
        for (int i = 0; i < 10; i++) {
            t.append("lot 3 ").append(i + 1).append(';');
        }
        while (t.length() < 1500) {
            t.append(' ');
        }
        KnitGrader g = Check.loaded(t.toString());
        int[] counts = {6, 8, 4, 6, 10, 99, 5, 1};
        for (int what = 0; what < counts.length; what++) {
            int asked = what;
            Check.due("full: count(" + what + ")", () -> g.count(asked), counts[what]);
        }
        Check.due("full: last value", () -> g.value(7, 5), 3000);
        Check.due("full: last row of the last chart", () -> g.chartRow(3, 7, true), 1);
        Check.due("full: last part", () -> g.part(2, 9, 6), 7);
        Check.due("full: last lot", () -> g.lot(9, 1), 10);
    }

    private static void wrongTokens() {
        fault(1, "^");
        fault(1, "  \n^");
        fault(1, "^;");
        fault(1, "^gauges 20 30 yarn 10;");
        fault(1, "^gaug");
        fault(1, "gauge ^yarn");
        fault(1, "gauge 20 ^;");
        fault(1, "gauge 20 30 ^10;");
        fault(1, "gauge 20 30 yarn ^;");
        fault(1, "gauge 20 30 yarn 10 ^sizes s;");
        fault(1, "gauge 20 30 yarn 10^");
        fault(1, "gauge 20 30 yarn 10; ^");
        fault(1, "gauge 20 30 yarn 10;^size s;");
        fault(1, "gauge 20 30 yarn 10;sizes ^;");
        fault(1, "gauge 20 30 yarn 10;sizes s ^4");
        fault(1, "gauge 20 30 yarn 10;sizes s^");
        fault(1, HEAD + "^sizes a;");
        fault(1, HEAD + "^work");
        fault(1, HEAD + "^5");
        fault(1, HEAD + "^;");
        fault(1, "gauge ^00020 30 yarn 10;sizes s;");
        fault(1, "gauge ^12345 30 yarn 10;sizes s;");
        for (int sign = 0; sign < 256; sign++) {
            boolean starts = sign >= 'a' && sign <= 'z' || sign >= '0' && sign <= '9' || sign == ';';
            if (!starts && sign != 10 && sign != 32) {
                Check.fault(HEAD + (char) sign + " ", 1, HEAD.length());
            }
        }
        fault(1, HEAD + "measure hip ^;");
        fault(1, HEAD + "measure hip 400 ^;");
        fault(1, HEAD + "measure hip 400 450 ^500;");
        fault(1, HEAD + "measure hip 400 450 ^9999;");
        fault(1, HEAD + "measure hip 400 ^x;");
        fault(1, HEAD + "measure ^400 400;");
        fault(1, HEAD + "measure hip 400 450^");
        fault(1, HEAD + "chart ^1 k;");
        fault(1, HEAD + "chart a ^;");
        fault(1, HEAD + "chart a ^7;");
        fault(1, HEAD + "chart a k ^7;");
        fault(1, HEAD + "chart a k^");
        fault(1, HEAD + "chart a ^kkkkkkkkkkkkk;");
        fault(1, HEAD + "chart a k ^kax;");
        fault(1, HEAD + "chart a k;^measure hip 1 2;");
        fault(1, CAST + "end;^chart b k;");
        fault(1, CAST + "end;^measure b 1 2;");
        fault(1, HEAD + "lot 0 5;^piece p;");
        fault(1, HEAD + "lot 0 5;^measure hip 1 2;");
        fault(1, HEAD + "lot 0 5;^end;");
        fault(1, HEAD + "lot 0 5 ^5;");
        fault(1, HEAD + "lot ^red 5;");
        fault(1, HEAD + "lot 0 ^;");
        fault(1, HEAD + "lot 0 5^");
        Check.loaded(HEAD + "chart a kkkkkkkkkkkk;");
    }

    private static void wrongTokensInPieces() {
        fault(1, CHARTED + "piece ^;");
        fault(1, CHARTED + "piece p ^cast");
        fault(1, CHARTED + "piece p;^work long color 0;");
        fault(1, CHARTED + "piece p;^end;");
        fault(1, CHARTED + "piece p;cast ^color 0;");
        fault(1, CHARTED + "piece p;cast hip ^;");
        fault(1, CHARTED + "piece p;cast hip ^over long color 0;");
        fault(1, CHARTED + "piece p;cast hip color ^;");
        fault(1, CHARTED + "piece p;cast hip plus ^color 0;");
        fault(1, CHARTED + "piece p;cast hip plus 3 ^minus 3 color 0;");
        fault(1, CHARTED + "piece p;cast hip ^and 3 color 0;");
        fault(1, CHARTED + "piece p;cast hip by ^color 0;");
        fault(1, CHARTED + "piece p;cast hip by 4 ^plus 3 color 0;");
        fault(1, CHARTED + "piece p;cast hip by 4 and ^color 0;");
        fault(1, CHARTED + "piece p;cast hip color 0 ^chart a;");
        fault(1, CAST + "^cast hip color 0;");
        fault(1, CAST + "^piece q;");
        fault(1, CAST + "^");
        fault(1, CAST + "work ^color 0;");
        fault(1, CAST + "work long ^plus 3 color 0;");
        fault(1, CAST + "work long ^chart a;");
        fault(1, CAST + "work long color 0 ^a;");
        fault(1, CAST + "work long color 0 chart ^;");
        fault(1, CAST + "work long color 0^");
        fault(1, CAST + "shape hip ^color 0;");
        fault(1, CAST + "shape hip over long ^color 0;");
        fault(1, CAST + "shape hip over long per ^color 0;");
        fault(1, CAST + "shape hip over long per 1 ^;");
        fault(1, CAST + "shape hip over ^1 per 1 color 0;");
        fault(1, CAST + "shape hip over long per 1 color 0 ^chart a;");
        fault(1, CAST + "end ^lot 0 5;");
        fault(1, CAST + "end^");
    }

    private static void names() {
        String[] none = {"plus", "minus", "by", "color", "chart", "over", "per", "abcdefghi", "12", "a1"};
        for (int i = 0; i < 9; i++) {
            fault(1, "gauge 20 30 yarn 10;sizes a ^" + none[i] + ";");
            fault(1, HEAD + "measure ^" + none[i] + " 1 2;");
            fault(1, HEAD + "chart ^" + none[i] + " k;");
            fault(1, CHARTED + "piece ^" + none[i] + ";");
            fault(1, CHARTED + "piece p;cast ^" + none[i] + " color 0;");
            fault(1, CAST + "work ^" + none[i] + " color 0;");
            fault(1, CAST + "work long color 0 chart ^" + none[i] + ";");
            fault(1, CAST + "shape hip over ^" + none[i] + " per 1 color 0;");
        }
        KnitGrader g = Check.loaded("gauge 20 30 yarn 10;sizes gauge yarn sizes measure piece cast;measure work 1 2 3 4 5 6;"
            + "measure shape 1 2 3 4 5 6;measure end 1 2 3 4 5 6;chart and k;chart lot k;"
            + "piece piece;cast end by 2 and 1 color 0;work work color 0 chart and;shape shape over end per 1 color 1;end;piece end;cast shape color 1;end;");
        Check.write(g, "measure");
        Check.due("a size may be called measure", () -> g.find(0), 3);
        Check.write(g, "and");
        Check.due("a chart may be called and", () -> g.find(2), 0);
        Check.write(g, "end");
        Check.due("a piece may be called end", () -> g.find(3), 1);
        Check.due("and what is told with such names", () -> g.part(0, 2, 6), 2);
    }

    private static void numbers() {
        int[] gauges = {0, 4, 100, 9999};
        for (int gauge : gauges) {
            fault(2, "gauge ^" + gauge + " 30 yarn 10;");
            fault(2, "gauge 20 ^" + gauge + " yarn 10;");
        }
        fault(2, "gauge 20 30 yarn ^0;");
        fault(2, "gauge 20 30 yarn ^100;");
        fault(2, HEAD + "measure hip ^3001 5;");
        fault(2, HEAD + "measure hip 5 ^3001;");
        fault(2, CHARTED + "piece p;cast hip plus ^1000 color 0;");
        fault(2, CHARTED + "piece p;cast hip minus ^1000 color 0;");
        fault(2, CHARTED + "piece p;cast hip by ^0 color 0;");
        fault(2, CHARTED + "piece p;cast hip by ^31 color 0;");
        fault(2, CHARTED + "piece p;cast hip by 4 and ^4 color 0;");
        fault(2, CHARTED + "piece p;cast hip by 1 and ^1 color 0;");
        fault(2, CHARTED + "piece p;cast hip color ^4;");
        fault(2, CAST + "work long color ^4;");
        fault(2, CAST + "shape hip over long per ^0 color 0;");
        fault(2, CAST + "shape hip over long per ^5 color 0;");
        fault(2, CAST + "shape hip over long per 4 color ^4;");
        fault(2, HEAD + "lot ^4 5;");
        fault(2, HEAD + "lot 3 ^0;");
        Check.loaded("gauge 5 99 yarn 1;sizes s;measure a 0;measure b 3000;piece p;cast a plus 999 by 30 and 29 color 3;"
            + "shape b minus 999 by 1 and 0 over b per 4 color 3;shape b plus 0 over a per 1 color 0;end;lot 3 9999;lot 0 1;");
        Check.loaded("gauge 99 5 yarn 99;sizes s;");
    }

    private static void takenAndUnknownNames() {
        fault(3, "gauge 20 30 yarn 10;sizes s m ^s;");
        fault(3, TABLE + "measure ^hip 3001;");
        fault(3, CHARTED + "chart ^a 9;");
        fault(3, CAST + "end;piece ^p;");
        Check.loaded("gauge 20 30 yarn 10;sizes a;measure a 5;chart a k;piece a;cast a color 0;end;");
        fault(4, CHARTED + "piece p;cast ^a color 0;");
        fault(4, CHARTED + "piece p;cast ^s color 0;");
        fault(4, CAST + "work ^longer color 0;");
        fault(4, CAST + "work long color 0 chart ^hip;");
        fault(4, CAST + "shape ^p over long per 1 color 0;");
        fault(4, CAST + "shape hip over ^lon per 1 color 0;");
        fault(4, HEAD + "piece p;cast ^hip");
    }

    private static void noRoom() {
        fault(5, "gauge 20 30 yarn 10;sizes a b c d e f ^g;");
        fault(3, "gauge 20 30 yarn 10;sizes a b c d e f ^a;");
        fault(1, "gauge 20 30 yarn 10;sizes a b c d e f ^plus;");
        fault(1, "gauge 20 30 yarn 10;sizes a b c d e f ^abcdefghi;");
        StringBuilder measures = new StringBuilder(HEAD);
        StringBuilder charts = new StringBuilder(TABLE);
        StringBuilder pieces = new StringBuilder(TABLE);
        StringBuilder lots = new StringBuilder(HEAD);
        for (int i = 0; i < 8; i++) {
            measures.append("measure m").append((char) ('a' + i)).append(" 1 2;");
        }
        fault(5, measures + "^measure plus");
        fault(5, measures + "^measure ma");
        for (int i = 0; i < 4; i++) {
            charts.append("chart c").append((char) ('a' + i)).append(" k;");
        }
        fault(5, charts + "^chart e");
        for (int i = 0; i < 6; i++) {
            pieces.append("piece p").append((char) ('a' + i)).append(";cast hip color 0;end;");
        }
        fault(5, pieces + "^piece 3");
        for (int i = 0; i < 10; i++) {
            lots.append("lot 0 1;");
        }
        fault(5, lots + "^lot");
        fault(5, HEAD + "chart a k k k k k k k k ^k;");
        fault(5, HEAD + "chart a k k k k k k k k ^kk;");
        fault(1, HEAD + "chart a k k k k k k k k ^end;");
        StringBuilder parts = new StringBuilder(CAST);
        for (int i = 0; i < 9; i++) {
            parts.append(i % 2 == 0 ? "work long color 0;" : "shape hip over long per 1 color 0;");
        }
        fault(5, parts + "^work 0");
        fault(5, parts + "^shape");
        fault(1, parts + "^cast");
        KnitGrader g = Check.loaded(parts + "end;");
        Check.due("ten parts", () -> g.parts(0), 10);
    }

    private static void chartStitches() {
        fault(6, HEAD + "chart a kyt ^yk;");
        fault(6, HEAD + "chart a kk ^k;");
        fault(6, HEAD + "chart a kt kk^;");
        fault(6, HEAD + "chart a kt^;");
        fault(6, HEAD + "chart a y^;");
        fault(6, HEAD + "chart a yk ^s kk;");
        fault(6, HEAD + "chart a kk ^s 5");
        fault(1, HEAD + "chart a kt ^5;");
        fault(1, HEAD + "chart a kt^");
        fault(1, HEAD + "chart a kk ^kkkkx;");
        Check.loaded(HEAD + "chart a kyt kkk;chart b yk t;chart c s yyk;chart d kpyts kkkkk ttk yyyykkk;");
    }

    private static void leftmostError() {
        fault(2, "gauge ^4 30 yarn 0;sizes s s;");
        fault(3, HEAD + "measure hip 1 2;measure ^hip 1 12345 A");
        fault(1, HEAD + "measure hip ^A 12345");
        fault(2, HEAD + "measure hip 5 ^9999 9999;");
    }

    private static void find() {
        KnitGrader g = Check.loaded("gauge 20 30 yarn 10;sizes a b c d e f;measure g 1 1 1 1 1 1;measure b 1 1 1 1 1 1;"
            + "chart h k;chart b k;chart abcdefgh k;piece i;cast g color 0;end;piece j;cast g color 0;end;piece b;cast g color 0;end;");
        for (int i = 0; i < 6; i++) {
            Check.write(g, String.valueOf((char) ('a' + i)));
            Check.due("find size " + i, () -> g.find(0), i);
        }
        int[] numbers = {1, 1, 1, 2};
        for (int kind = 0; kind < 4; kind++) {
            int what = kind;
            Check.write(g, "b");
            Check.due("find b of kind " + kind, () -> g.find(what), numbers[kind]);
            Check.range("the buffer is empty after it", () -> g.truncate(1));
            Check.write(g, "x");
            Check.missing("find x of kind " + kind, () -> g.find(what));
            Check.range("the buffer is empty after that too", () -> g.truncate(1));
            Check.missing("the empty name of kind " + kind, () -> g.find(what));
        }
        Check.write(g, "g");
        Check.missing("the name of a measure is that of no size", () -> g.find(0));
        Check.write(g, "abcdefgh");
        Check.due("a name of 8 letters", () -> g.find(2), 2);
        Check.write(g, "b");
        Check.argument("find(-1)", () -> g.find(-1));
        Check.argument("find(4)", () -> g.find(4));
        Check.argument("find of the greatest number", () -> g.find(Integer.MAX_VALUE));
        Check.due("the buffer stays if what is out of range", () -> g.find(3), 2);
        Check.argument("what comes before the name", () -> g.find(5));
    }

    private static void findByteByByte() {
        KnitGrader g = Check.loaded(HEAD + "measure hip 1 2;measure abcdefgh 1 2;");
        String[] others = {"hip ", " hip", "hi", "ip", "hipp", "Hip", "hip\n", "\0hip", "hip\0", "\0\0\0\0\0hip", "abcdefghi", "aabcdefgh",
            "\0abcdefgh", "abcdefgh ", "abcdefg", "hip;", "\u00ffhip", "hip0"};
        for (String other : others) {
            Check.write(g, other);
            Check.missing("find " + other, () -> g.find(1));
        }
        Check.write(g, "hip");
        Check.due("find hip", () -> g.find(1), 0);
        Check.write(g, "abcdefgh");
        Check.due("find abcdefgh", () -> g.find(1), 1);
    }
}
