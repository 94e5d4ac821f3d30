import java.util.ArrayList;
import java.util.List;

/** The sentences of the chapter THE TEXT that name an edge, and those of promises 1 to 7, one by one. */
public final class EdgesOfTextTest {
    private static final String HEAD = "gauge 20 30 yarn 10;sizes s m;";
    private static final String TABLE = HEAD + "measure hip 400 450;measure long 100 120;";
    private static final String CHARTED = TABLE + "chart a kyt kkk;";
    private static final String PIECE = CHARTED + "piece p;";
    private static final String CAST = PIECE + "cast hip color 0;";
    private static final String FIRST = "gauge 20 30 yarn 10;sizes s m;measure hip 400 450;measure long 100 120;piece back;"
        + "cast hip color 0;work long color 0;end;lot 0 100;";
    /** Each production of the grammar, with and without what may be left out. */
    private static final String RICH = "gauge 5 99 yarn 1;sizes s m;measure hip 0 3000;measure long 1 2;chart a k;chart b kyt kkk;"
        + "piece p;cast hip color 0;end;piece q;cast hip plus 0 color 3;work long color 1;work hip color 2 chart b;"
        + "shape hip over long per 1 color 0;shape long minus 999 over hip per 4 color 3;shape hip by 30 over long per 2 color 1;"
        + "shape hip plus 5 by 30 and 29 over long per 3 color 2;end;lot 0 1;lot 3 9999;";
    private static final String[] NO_NAMES = {"plus", "minus", "by", "color", "chart", "over", "per"};

    private EdgesOfTextTest() {
    }

    public static void main(String[] args) {
        bufferOfMost1500();
        words();
        numbersAsTokens();
        semicolons();
        blanks();
        bytesThatStartNoToken();
        textFromEndToEnd();
        everyTokenIsDue();
        order();
        gaugeRange();
        values();
        valuesForEachSize();
        lettersOfNames();
        wordsThatAreNoNames();
        namesOfTheirOwn();
        chartLetters();
        chartWordLength();
        colors();
        measureOfWidth();
        eases();
        multiples();
        remainders();
        withoutByAndAnd();
        lengths();
        pers();
        lots();
        mostSizes();
        mostMeasures();
        mostCharts();
        mostChartRows();
        mostPieces();
        mostParts();
        mostLots();
        positionOfTheEnd();
        firstFromTheLeft();
        lowestCode();
        code1();
        code2();
        code3();
        code4();
        code5();
        code6();
        newObject();
        appendsBytes();
        appendBeyond();
        truncates();
        truncateOutside();
        loadForgets();
        bufferIsEmptyAfterLoad();
        loadAfterAnother();
        loadCountsPieces();
        errorStaysOut();
        errorOfLatestLoad();
        finds();
        findsByteByByte();
        findsByEachLetter();
        findEmptiesTheBuffer();
        findOutside();
        findsNothing();
        Check.end("EdgesOfTextTest");
    }

    private static void fault(int code, String marked) {
        Check.faultAt(code, marked);
    }

    private static String letters(int count, char letter) {
        return String.valueOf(letter).repeat(count);
    }

    private static char letter(int number) {
        return (char) ('a' + number);
    }

    private static String padded(String text, int length) {
        return text + " ".repeat(length - text.length());
    }

    private static void bufferOfMost1500() {
        Check.sentence("a text buffer of at most 1500 bytes");
        KnitGrader g = new KnitGrader();
        Check.write(g, padded(HEAD + "measure x 1 2", 1499) + ";");
        Check.due("1500 bytes are there", () -> g.truncate(1500), 1500);
        Check.due("a text of 1500 bytes, the last one needed", g::load, 0);
        Check.due("its measure", () -> g.count(1), 1);
        Check.fault(padded(HEAD + "measure x 1 2", 1500), 1, 1500);
        Check.fault(padded(HEAD + "measure x 1 2;", 1499) + "A", 1, 1499);
        Check.fault(letters(1500, ';'), 1, 0);
        Check.fault("gauge" + letters(1495, '9'), 1, 5);
        Check.fault(letters(1500, 'a'), 1, 0);
        Check.loads(HEAD + letters(1500 - HEAD.length(), '\n'));
    }

    private static void words() {
        Check.sentence("Tokens are as long as possible: words (maximal runs of letters a to z)");
        KnitGrader g = Check.loaded("gauge 20 30 yarn 10;sizes az za;measure a 1 2;");
        Check.write(g, "az");
        Check.due("a and z are letters", () -> g.find(0), 0);
        Check.write(g, "za");
        Check.due("z and a are letters", () -> g.find(0), 1);
        Check.write(g, "a");
        Check.missing("a part of a word is none", () -> g.find(0));
        fault(1, "^gaugeyarn 20 30 yarn 10;sizes s;");
        fault(1, "^ga uge 20 30 yarn 10;sizes s;");
        fault(1, HEAD + "^measurehip 400 450;");
        fault(1, CAST + "^worklong color 0;");
        fault(1, PIECE + "cast hip ^pluss 3 color 0;");
        fault(1, "gauge 20 30 yarn 10;sizes s^`;");
        fault(1, "gauge 20 30 yarn 10;sizes s^{;");
        fault(1, "gauge 20 30 yarn 10;sizes ^A;");
        fault(1, "gauge 20 30 yarn 10;sizes s^Z;");
    }

    private static void numbersAsTokens() {
        Check.sentence("numbers (maximal runs of 1 to 4 digits)");
        KnitGrader g = Check.loaded("gauge 5 0030 yarn 009;sizes s m;measure hip 0 0000;measure b 0123 9;measure c 2999 0456;measure d 780 1;");
        int[] due = {0, 0, 123, 9, 2999, 456, 780, 1};
        for (int i = 0; i < due.length; i++) {
            int at = i;
            Check.due("value " + i, () -> g.value(at / 2, at % 2), due[i]);
        }
        Check.due("30 with zeros ahead", () -> g.count(6), 30);
        fault(1, "gauge ^00020 30 yarn 10;sizes s;");
        fault(1, HEAD + "measure hip ^400450;");
        fault(1, HEAD + "measure hip 400 ^00000;");
        fault(1, HEAD + "measure hip 4 00 ^450;");
        fault(1, HEAD + "measure hip 400^/450;");
        fault(1, HEAD + "measure hip 400^:450;");
        fault(2, HEAD + "measure hip ^9999 450;");
    }

    private static void semicolons() {
        Check.sentence("the one-byte symbol \";\"");
        fault(1, "gauge 20 30 yarn 10;^;sizes s;");
        fault(1, HEAD + "^;");
        fault(1, CAST + "end;^;");
        fault(1, "gauge 20 30 yarn 10^:sizes s;");
        fault(1, "gauge 20 30 yarn 10^<sizes s;");
    }

    /** Blanks may be left out only where a word or a number ends by itself. */
    private static void blanks() {
        Check.sentence("Blanks (bytes 10 and 32) may stand before, between and behind tokens.");
        String[] tokens = tokens(RICH);
        Check.due("a text with one blank between tokens", () -> Check.loaded(String.join(" ", tokens) + " ").count(3), 2);
        Check.due("with a line each", () -> Check.loaded("\n" + String.join("\n", tokens)).count(3), 2);
        StringBuilder mixed = new StringBuilder();
        for (String token : tokens) {
            mixed.append(" \n ").append(token);
        }
        Check.due("with blanks of both kinds", () -> Check.loaded(mixed + " \n\n ").count(3), 2);
        String tight = "gauge5 99yarn1;sizes s m;measure hip0 3000;chart a k;piece q;cast hip plus0by30and29color3;work hip color2chart a;"
            + "shape hip by2over hip per4color1;end;lot0 1;";
        Check.due("with no blank that is not needed", () -> Check.loaded(tight).part(0, 0, 5), 29);
    }

    private static void bytesThatStartNoToken() {
        Check.sentence("a byte that starts no token");
        for (int sign = 0; sign < 256; sign++) {
            boolean letter = sign >= 'a' && sign <= 'z';
            boolean digit = sign >= '0' && sign <= '9';
            if (!letter && !digit && sign != ';' && sign != 10 && sign != 32) {
                String one = String.valueOf((char) sign);
                Check.fault(one + HEAD, 1, 0);
                Check.fault("gauge 20" + one + "30 yarn 10;sizes s;", 1, 8);
                Check.fault(HEAD + one, 1, HEAD.length());
                Check.fault("gauge 20 30 yarn 10;sizes s" + one + "m;", 1, 27);
            }
        }
    }

    private static String[] tokens(String text) {
        List<String> tokens = new ArrayList<>();
        int at = 0;
        while (at < text.length()) {
            int end = at + 1;
            while (end < text.length() && kind(text.charAt(at)) != ';' && kind(text.charAt(end)) == kind(text.charAt(at))) {
                end++;
            }
            if (text.charAt(at) != ' ') {
                tokens.add(text.substring(at, end));
            }
            at = end;
        }
        return tokens.toArray(new String[0]);
    }

    private static char kind(char sign) {
        return Character.isDigit(sign) ? '0' : Character.isLetter(sign) ? 'a' : sign;
    }

    /** The text is cut before each of its tokens: it has to go on, but for the places where it may end. */
    private static void textFromEndToEnd() {
        Check.sentence("text = \"gauge\" number number \"yarn\" number \";\" \"sizes\" name { name } \";\" { measure \";\" } { chart \";\" } { piece } { lot \";\" }.");
        String[] tokens = tokens(RICH);
        StringBuilder cut = new StringBuilder();
        boolean inPiece = false;
        boolean sizes = false;
        for (String token : tokens) {
            cut.append(token);
            inPiece |= token.equals("piece");
            sizes |= token.equals("sizes");
            String text = cut.toString();
            if (text.endsWith(" end ;")) {
                inPiece = false;
            }
            if (token.equals(";") && sizes && !inPiece) {
                Check.loads(text);
            } else {
                Check.fault(text, 1, text.length());
            }
            cut.append(' ');
        }
        Check.due("no measures, charts, pieces and lots", () -> Check.loaded("gauge 20 30 yarn 10;sizes s;").count(0), 1);
        fault(1, "gauge 20 30 yarn 10;sizes ^;");
        fault(1, CHARTED + "chart b ^;");
    }

    /** A byte that starts no token ahead of each token, and each fixed word replaced by another one. */
    private static void everyTokenIsDue() {
        Check.sentence("Code 1: a token that cannot stand there");
        String[] tokens = tokens(RICH);
        StringBuilder before = new StringBuilder();
        for (int i = 0; i < tokens.length; i++) {
            String rest = String.join(" ", java.util.Arrays.copyOfRange(tokens, i, tokens.length));
            if (i % 7 == 0) {
                Check.fault(before + "? " + rest, 1, before.length());
            }
            if (tokens[i].equals(";") && !tokens[i - 1].equals("end") || tokens[i].matches("[0-9]+")) {
                // A name cannot stand for a number; for a ";" one can where names or rows are told.
                boolean names = i > 6 && i < 11 || before.toString().matches(".* chart [a-z]+ [kpyts ]+");
                if (!names) {
                    Check.fault(before + "zzz " + rest, 1, before.length());
                }
            } else if (!tokens[i].equals(";")) {
                Check.fault(before + "7 " + rest, 1, before.length());
                if (!before.toString().matches(".*(sizes s|chart [ab]( [kyt]+)+|color [0-3]) ")) {
                    Check.fault(before + "; " + rest, 1, before.length());
                }
            }
            before.append(tokens[i]).append(' ');
        }
    }

    private static void order() {
        Check.sentence("{ measure \";\" } { chart \";\" } { piece } { lot \";\" }, in this order");
        String chart = "chart c k;";
        String piece = "piece r;cast hip color 0;end;";
        String lot = "lot 0 5;";
        fault(1, TABLE + chart + "^measure x 1 2;");
        fault(1, TABLE + piece + "^measure x 1 2;");
        fault(1, TABLE + lot + "^measure x 1 2;");
        fault(1, TABLE + piece + "^chart d k;");
        fault(1, TABLE + lot + "^chart d k;");
        fault(1, TABLE + lot + "^piece s;cast hip color 0;end;");
        fault(1, TABLE + "^gauge 20 30 yarn 10;");
        fault(1, TABLE + "^sizes l;");
        fault(1, TABLE + "^cast hip color 0;");
        fault(1, TABLE + "^end;");
        Check.loads(TABLE + piece + lot + lot);
        Check.loads(TABLE + chart + lot);
        Check.loads(HEAD + lot);
    }

    private static void gaugeRange() {
        Check.sentence("gauge gives the stitches and the rows for 100 millimeters (5 to 99 each), yarn the millimeters of yarn for a stitch (1 to 99).");
        KnitGrader least = Check.loaded("gauge 5 5 yarn 1;sizes s;");
        KnitGrader most = Check.loaded("gauge 99 99 yarn 99;sizes s;");
        int[] leasts = {5, 5, 1};
        for (int i = 0; i < 3; i++) {
            int what = 5 + i;
            Check.due("least of " + what, () -> least.count(what), leasts[i]);
            Check.due("most of " + what, () -> most.count(what), 99);
        }
        for (int number : new int[] {0, 4, 100, 9999}) {
            fault(2, "gauge ^" + number + " 30 yarn 10;sizes s;");
            fault(2, "gauge 20 ^" + number + " yarn 10;sizes s;");
        }
        for (int number : new int[] {0, 100, 9999}) {
            fault(2, "gauge 20 30 yarn ^" + number + ";sizes s;");
        }
    }

    private static void values() {
        Check.sentence("one value (0 to 3000 millimeters) for each size");
        KnitGrader g = Check.loaded("gauge 20 30 yarn 10;sizes a b c;measure x 0 3000 1;measure y 2999 0 3000;");
        int[] due = {0, 3000, 1, 2999, 0, 3000};
        for (int i = 0; i < 6; i++) {
            int at = i;
            Check.due("value " + i, () -> g.value(at / 3, at % 3), due[i]);
        }
        fault(2, HEAD + "measure x ^3001 0;");
        fault(2, HEAD + "measure x 0 ^3001;");
        fault(2, HEAD + "measure x 1 2;measure y 0 ^9999;");
    }

    private static void valuesForEachSize() {
        Check.sentence("a missing or an extra one is an error with code 1");
        fault(1, HEAD + "measure x ^;");
        fault(1, HEAD + "measure x 1^;");
        fault(1, HEAD + "measure x 1 2 ^3;");
        fault(1, HEAD + "measure x 1 2 ^3001;");
        fault(1, HEAD + "measure x 1 ^y;");
        fault(1, "gauge 20 30 yarn 10;sizes s;measure x 1 ^2;");
        fault(1, "gauge 20 30 yarn 10;sizes a b c d e f;measure x 1 2 3 4 5 ^;");
        fault(1, "gauge 20 30 yarn 10;sizes a b c d e f;measure x 1 2 3 4 5 6 ^7;");
        Check.loads("gauge 20 30 yarn 10;sizes a b c d e f;measure x 1 2 3 4 5 6;");
    }

    /** Each place where a name stands, with a name that is put there. */
    private static String[] placesOfNames(String name) {
        return new String[] {"gauge 20 30 yarn 10;sizes ^" + name + ";", "gauge 20 30 yarn 10;sizes s ^" + name + ";", HEAD + "measure ^" + name + " 1 2;",
            HEAD + "chart ^" + name + " k;", TABLE + "piece ^" + name + ";", PIECE + "cast ^" + name + " color 0;", CAST + "work ^" + name + " color 0;",
            CAST + "work long color 0 chart ^" + name + ";", CAST + "shape ^" + name + " over long per 1 color 0;",
            CAST + "shape hip over ^" + name + " per 1 color 0;"};
    }

    private static void lettersOfNames() {
        Check.sentence("A name is a word of 1 to 8 letters");
        for (String name : new String[] {"a", "z", "abcdefgh", "zzzzzzzz"}) {
            KnitGrader g = Check.loaded("gauge 20 30 yarn 10;sizes q " + name + ";measure " + name + " 1 2;chart " + name + " k;piece " + name + ";cast " + name
                + " color 0;work " + name + " color 0 chart " + name + ";shape " + name + " over " + name + " per 1 color 0;end;");
            for (int kind = 0; kind < 4; kind++) {
                int what = kind;
                Check.write(g, name);
                Check.due("find " + name + " of kind " + kind, () -> g.find(what), kind == 0 ? 1 : 0);
            }
        }
        for (String name : new String[] {"abcdefghi", letters(16, 'a'), letters(200, 'z'), "5", "?"}) {
            for (String marked : placesOfNames(name)) {
                fault(1, marked);
            }
        }
        Check.loads("gauge 20 30 yarn 10;sizes a aa aaa aaaa aaaaaaa aaaaaaaa;");
        KnitGrader eight = Check.loaded("gauge 20 30 yarn 10;sizes abcdefgh bbcdefgh abcdefgi;");
        Check.write(eight, "abcdefgi");
        Check.due("the last of 8 letters tells names apart", () -> eight.find(0), 2);
        Check.write(eight, "bbcdefgh");
        Check.due("so does the first", () -> eight.find(0), 1);
    }

    private static void wordsThatAreNoNames() {
        Check.sentence("other than plus, minus, by, color, chart, over and per");
        for (String word : NO_NAMES) {
            for (String marked : placesOfNames(word)) {
                fault(1, marked);
            }
        }
        String[] others = {"gauge", "yarn", "sizes", "measure", "piece", "cast", "work", "shape", "end", "lot", "and", "pluss", "plu", "b", "colors", "pers", "overs"};
        for (String word : others) {
            Check.loads("gauge 20 30 yarn 10;sizes " + word + " q;measure " + word + " 1 2;chart " + word + " k;piece " + word + ";cast " + word
                + " color 0;work " + word + " color 0 chart " + word + ";shape " + word + " by 2 and 1 over " + word + " per 1 color 0;end;");
        }
    }

    private static void namesOfTheirOwn() {
        Check.sentence("sizes, measures, charts and pieces have names of their own (a size and a measure may have the same name)");
        KnitGrader g = Check.loaded("gauge 20 30 yarn 10;sizes a b;measure b 1 2;measure a 3 4;chart c k;chart b t yk;chart a k;piece d;cast a color 0;end;"
            + "piece c;cast a color 0;end;piece b;cast a color 0;end;piece a;cast a color 0;work b color 0 chart c;end;");
        int[] due = {0, 1, 2, 3};
        for (int kind = 0; kind < 4; kind++) {
            int what = kind;
            Check.write(g, "a");
            Check.due("find a of kind " + kind, () -> g.find(what), due[kind]);
        }
        Check.due("the measure a, not the size a", () -> g.part(3, 0, 2), 1);
        Check.due("the chart c, not the piece c", () -> g.part(3, 1, 8), 0);
    }

    private static void chartLetters() {
        Check.sentence("words of 1 to 12 of the letters k, p, y, t and s: the letters");
        for (char one = 'a'; one <= 'z'; one++) {
            if ("kpyts".indexOf(one) < 0) {
                fault(1, HEAD + "chart a ^" + one + ";");
                fault(1, HEAD + "chart a ^k" + one + ";");
                fault(1, HEAD + "chart a k ^" + one + "k;");
            }
        }
        KnitGrader g = Check.loaded(HEAD + "chart a k;chart b p;chart c yt;chart d yys;");
        for (int chart = 0; chart < 4; chart++) {
            int one = chart;
            Check.due("chart " + chart, () -> g.chartRow(one, 0, true), chart < 2 ? 1 : chart);
        }
    }

    private static void chartWordLength() {
        Check.sentence("words of 1 to 12 of the letters: their number");
        Check.loads(HEAD + "chart a k;chart b " + letters(12, 'p') + " " + letters(12, 'k') + ";");
        fault(1, HEAD + "chart a ^" + letters(13, 'k') + ";");
        fault(1, HEAD + "chart a " + letters(12, 'k') + " ^" + letters(13, 'k') + ";");
        fault(1, HEAD + "chart a ^" + letters(300, 'k') + ";");
        fault(1, HEAD + "chart a ^7;");
        fault(1, HEAD + "chart a ^;");
    }

    private static void colors() {
        Check.sentence("The color of a part is 0 to 3.");
        for (int color = 0; color < 4; color++) {
            int due = color;
            KnitGrader g = Check.loaded(PIECE + "cast hip color " + color + ";work long color " + color + ";work long color " + color + " chart a;shape hip over long per 1 color "
                + color + ";end;");
            for (int part = 0; part < 4; part++) {
                int asked = part;
                Check.due("color of part " + part, () -> g.part(0, asked, 1), due);
            }
        }
        for (int color : new int[] {4, 10, 9999}) {
            fault(2, PIECE + "cast hip color ^" + color + ";");
            fault(2, CAST + "work long color ^" + color + ";");
            fault(2, CAST + "work long color ^" + color + " chart a;");
            fault(2, CAST + "shape hip over long per 1 color ^" + color + ";");
        }
    }

    private static void measureOfWidth() {
        Check.sentence("In a width, the name is that of a measure");
        KnitGrader g = Check.loaded(PIECE + "cast long color 0;shape hip over long per 1 color 0;end;");
        Check.due("the last measure", () -> g.part(0, 0, 2), 1);
        Check.due("the first measure", () -> g.part(0, 1, 2), 0);
        fault(4, PIECE + "cast ^s color 0;");
        fault(4, PIECE + "cast ^a color 0;");
        fault(4, PIECE + "cast ^p color 0;");
        fault(4, CAST + "shape ^hi over long per 1 color 0;");
        fault(4, CAST + "shape ^hips over long per 1 color 0;");
    }

    private static void eases() {
        Check.sentence("plus and minus give an ease of 0 to 999 millimeters");
        KnitGrader g = Check.loaded(PIECE + "cast hip plus 0 color 0;shape hip plus 999 over long per 1 color 0;shape hip minus 0 over long per 1 color 0;"
            + "shape hip minus 999 over long per 1 color 0;shape hip minus 1 by 2 over long per 1 color 0;end;");
        int[] due = {0, 999, 0, -999, -1};
        for (int part = 0; part < 5; part++) {
            int asked = part;
            Check.due("ease of part " + part, () -> g.part(0, asked, 3), due[part]);
        }
        fault(2, PIECE + "cast hip plus ^1000 color 0;");
        fault(2, PIECE + "cast hip minus ^1000 color 0;");
        fault(2, CAST + "shape hip plus ^1000 over long per 1 color 0;");
        fault(2, CAST + "shape hip minus ^9999 over long per 1 color 0;");
        fault(1, PIECE + "cast hip plus 5 ^minus 5 color 0;");
        fault(1, PIECE + "cast hip plus 5 ^plus 5 color 0;");
        fault(1, PIECE + "cast hip plus ^color 0;");
    }

    private static void multiples() {
        Check.sentence("by gives a multiple of 1 to 30");
        KnitGrader g = Check.loaded(PIECE + "cast hip by 1 color 0;shape hip by 30 over long per 1 color 0;shape hip plus 3 by 2 over long per 1 color 0;end;");
        int[] due = {1, 30, 2};
        for (int part = 0; part < 3; part++) {
            int asked = part;
            Check.due("multiple of part " + part, () -> g.part(0, asked, 4), due[part]);
        }
        for (int multiple : new int[] {0, 31, 9999}) {
            fault(2, PIECE + "cast hip by ^" + multiple + " color 0;");
            fault(2, PIECE + "cast hip by ^" + multiple + " and 0 color 0;");
            fault(2, CAST + "shape hip by ^" + multiple + " over long per 1 color 0;");
        }
        fault(1, PIECE + "cast hip by ^and 0 color 0;");
        fault(1, PIECE + "cast hip by 4 ^by 4 color 0;");
        fault(1, PIECE + "cast hip by 4 ^plus 3 color 0;");
    }

    private static void remainders() {
        Check.sentence("and a remainder from 0 to the multiple - 1");
        int[][] good = {{1, 0}, {2, 0}, {2, 1}, {5, 4}, {30, 0}, {30, 29}};
        for (int[] one : good) {
            KnitGrader g = Check.loaded(PIECE + "cast hip by " + one[0] + " and " + one[1] + " color 0;end;");
            Check.due("remainder", () -> g.part(0, 0, 5), one[1]);
        }
        int[][] wrong = {{1, 1}, {2, 2}, {5, 5}, {29, 29}, {30, 30}, {30, 9999}};
        for (int[] one : wrong) {
            fault(2, PIECE + "cast hip by " + one[0] + " and ^" + one[1] + " color 0;");
            fault(2, CAST + "shape hip by " + one[0] + " and ^" + one[1] + " over long per 1 color 0;");
        }
        fault(1, PIECE + "cast hip ^and 0 color 0;");
        fault(1, PIECE + "cast hip plus 3 ^and 0 color 0;");
        fault(1, PIECE + "cast hip by 4 and 0 ^and 0 color 0;");
    }

    private static void withoutByAndAnd() {
        Check.sentence("without by the multiple is 1 and the remainder 0; without and the remainder is 0");
        KnitGrader g = Check.loaded(PIECE + "cast hip by 9 and 8 color 0;shape hip over long per 1 color 0;shape hip by 7 over long per 1 color 0;shape hip plus 3 over long per 1 color 0;end;"
            + "piece q;cast hip color 0;end;");
        int[][] due = {{9, 8}, {1, 0}, {7, 0}, {1, 0}};
        for (int part = 0; part < 4; part++) {
            int asked = part;
            Check.due("multiple of part " + part, () -> g.part(0, asked, 4), due[part][0]);
            Check.due("remainder of part " + part, () -> g.part(0, asked, 5), due[part][1]);
        }
        Check.due("multiple of a cast", () -> g.part(1, 0, 4), 1);
        Check.due("remainder of a cast", () -> g.part(1, 0, 5), 0);
    }

    private static void lengths() {
        Check.sentence("The name behind work or over is that of a measure (a length).");
        KnitGrader g = Check.loaded(CAST + "work hip color 0;work long color 0;shape hip over long per 1 color 0;shape long over hip per 1 color 0;end;");
        int[] due = {-1, 0, 1, 1, 0};
        for (int part = 0; part < 5; part++) {
            int asked = part;
            Check.due("length of part " + part, () -> g.part(0, asked, 6), due[part]);
        }
        fault(4, CAST + "work ^s color 0;");
        fault(4, CAST + "work ^a color 0;");
        fault(4, CAST + "shape hip over ^p per 1 color 0;");
        fault(1, CAST + "work long ^plus 5 color 0;");
        fault(1, CAST + "shape hip over long ^by 2 per 1 color 0;");
    }

    private static void pers() {
        Check.sentence("per is 1 to 4.");
        for (int per = 1; per <= 4; per++) {
            KnitGrader g = Check.loaded(CAST + "shape hip over long per " + per + " color 0;end;");
            Check.due("per", () -> g.part(0, 1, 7), per);
        }
        for (int per : new int[] {0, 5, 9999}) {
            fault(2, CAST + "shape hip over long per ^" + per + " color 0;");
        }
    }

    private static void lots() {
        Check.sentence("lot gives a color (0 to 3) and the meters of yarn that there are (1 to 9999).");
        KnitGrader g = Check.loaded(HEAD + "lot 0 1;lot 3 9999;lot 1 0002;");
        int[] due = {0, 1, 3, 9999, 1, 2};
        for (int i = 0; i < 6; i++) {
            int at = i;
            Check.due("lot " + i, () -> g.lot(at / 2, at % 2), due[i]);
        }
        fault(2, HEAD + "lot ^4 1;");
        fault(2, HEAD + "lot ^9999 1;");
        fault(2, HEAD + "lot 3 ^0;");
        fault(2, HEAD + "lot 0 ^0000;");
        fault(1, HEAD + "lot 0 ^10000;");
        fault(1, HEAD + "lot ^00000 1;");
    }

    private static String measures(int count) {
        StringBuilder t = new StringBuilder();
        for (int i = 0; i < count; i++) {
            t.append("measure m").append(letter(i)).append(" 1 2;");
        }
        return t.toString();
    }

    private static String charts(int count) {
        StringBuilder t = new StringBuilder();
        for (int i = 0; i < count; i++) {
            t.append("chart c").append(letter(i)).append(" k;");
        }
        return t.toString();
    }

    private static String pieces(int count) {
        StringBuilder t = new StringBuilder();
        for (int i = 0; i < count; i++) {
            t.append("piece p").append(letter(i)).append(";cast hip color 0;end;");
        }
        return t.toString();
    }

    private static void mostSizes() {
        Check.sentence("There are at most 6 sizes");
        KnitGrader g = Check.loaded("gauge 20 30 yarn 10;sizes a b c d e f;measure x 1 2 3 4 5 6;");
        Check.due("6 sizes", () -> g.count(0), 6);
        Check.due("value of the sixth", () -> g.value(0, 5), 6);
        Check.write(g, "f");
        Check.due("find the sixth", () -> g.find(0), 5);
        fault(5, "gauge 20 30 yarn 10;sizes a b c d e f ^g;");
        fault(5, "gauge 20 30 yarn 10;sizes a b c d e f ^g h;");
    }

    private static void mostMeasures() {
        Check.sentence("8 measures");
        KnitGrader g = Check.loaded(HEAD + measures(7) + "measure x 8 9;");
        Check.due("8 measures", () -> g.count(1), 8);
        Check.due("value of the eighth", () -> g.value(7, 1), 9);
        Check.write(g, "x");
        Check.due("find the eighth", () -> g.find(1), 7);
        fault(5, HEAD + measures(8) + "^measure x 8 9;");
    }

    private static void mostCharts() {
        Check.sentence("4 charts");
        KnitGrader g = Check.loaded(TABLE + charts(3) + "chart x kk;" + "piece p;cast hip color 0;work long color 0 chart x;end;");
        Check.due("4 charts", () -> g.count(2), 4);
        Check.due("width of the fourth", () -> g.chart(3, 1), 2);
        Check.due("worked by the fourth", () -> g.part(0, 1, 8), 3);
        Check.write(g, "x");
        Check.due("find the fourth", () -> g.find(2), 3);
        fault(5, TABLE + charts(4) + "^chart x kk;");
    }

    private static void mostChartRows() {
        Check.sentence("of at most 8 rows");
        KnitGrader g = Check.loaded(HEAD + "chart a k k k k k k k k;chart b p p p p p p p p;chart c k yk kk t yk kk kk t;");
        for (int chart = 0; chart < 3; chart++) {
            int one = chart;
            Check.due("rows of chart " + chart, () -> g.chart(one, 0), 8);
        }
        Check.due("what its eighth row takes", () -> g.chartRow(2, 7, false), 2);
        fault(5, HEAD + "chart a k k k k k k k k ^k;");
        fault(5, HEAD + "chart b k;chart a k k k k k k k k ^p k;");
    }

    private static void mostPieces() {
        Check.sentence("6 pieces");
        KnitGrader g = Check.loaded(TABLE + pieces(5) + "piece x;cast long color 3;end;");
        Check.due("6 pieces", () -> g.count(3), 6);
        Check.due("color of the sixth", () -> g.part(5, 0, 1), 3);
        Check.write(g, "x");
        Check.due("find the sixth", () -> g.find(3), 5);
        fault(5, TABLE + pieces(6) + "^piece x;cast long color 3;end;");
    }

    private static void mostParts() {
        Check.sentence("of at most 10 parts (with the cast)");
        String eight = "work long color 0;".repeat(8);
        KnitGrader g = Check.loaded(CAST + eight + "work long color 2;end;piece q;cast hip color 0;" + eight + "shape hip over long per 3 color 1;end;");
        Check.due("10 parts", () -> g.parts(0), 10);
        Check.due("color of the tenth", () -> g.part(0, 9, 1), 2);
        Check.due("10 parts of another piece", () -> g.parts(1), 10);
        Check.due("per of the tenth", () -> g.part(1, 9, 7), 3);
        fault(5, CAST + eight + "work long color 2;^work long color 0;");
        fault(5, CAST + eight + "work long color 2;^shape hip over long per 1 color 0;");
    }

    private static void mostLots() {
        Check.sentence("and 10 lots");
        KnitGrader g = Check.loaded(HEAD + "lot 0 1;".repeat(9) + "lot 3 7;");
        Check.due("10 lots", () -> g.count(4), 10);
        Check.due("meters of the tenth", () -> g.lot(9, 1), 7);
        fault(5, HEAD + "lot 0 1;".repeat(10) + "^lot 3 7;");
    }

    private static void positionOfTheEnd() {
        Check.sentence("The position of an error is the byte offset of the first byte of a token; the end has the text length as its position.");
        fault(1, "^");
        fault(1, "gauge^");
        fault(1, "gauge 20 30 yarn 10;sizes s^");
        fault(1, "gauge 20 30 yarn 10;sizes s \n^");
        fault(1, CAST + "end   ^");
        fault(1, "\n\n ^sizes s;");
        fault(1, "gauge 20 30 yarn 10;sizes s   ^123456 ;");
        fault(1, HEAD + "measure \n ^abcdefghijkl 1 2;");
        fault(4, CAST + "work   ^longer  color 0;");
    }

    private static void firstFromTheLeft() {
        Check.sentence("The first error from the left is reported");
        fault(2, "gauge ^4 100 yarn 0;sizes s s;");
        fault(2, "gauge 20 ^100 yarn 0;? 12345");
        fault(3, "gauge 20 30 yarn 10;sizes s ^s plus 12345 ?");
        fault(1, "gauge 20 30 yarn 10;sizes s ^plus s ?");
        fault(2, HEAD + "measure x 1 ^3001 12345;chart a kk k;");
        fault(6, HEAD + "chart a kk ^k kx;chart a k;");
        fault(6, HEAD + "chart a kt^;chart a");
        fault(4, PIECE + "cast ^nix plus 1000 color 4;");
        fault(5, HEAD + measures(8) + "^measure ma 3001");
        fault(2, PIECE + "cast hip by ^31 and 31 color 4;");
        fault(1, "gauge 20 30 yarn 10;sizes s m;^?measure hip 3001;");
    }

    private static void lowestCode() {
        Check.sentence("of several at the same position, the one with the lowest code");
        // 1 before 2
        fault(1, HEAD + "measure x 1 2 ^9999;");
        fault(1, HEAD + "measure x 1 ^99999;");
        fault(1, "gauge ^99999 30 yarn 10;");
        // 1 before 3 and 4
        fault(1, HEAD + "measure ^color 1 2;");
        fault(1, PIECE + "cast ^abcdefghi color 0;");
        fault(1, CAST + "work long color 0 chart ^over;");
        // 1 before 5
        fault(1, "gauge 20 30 yarn 10;sizes a b c d e f ^per;");
        fault(1, "gauge 20 30 yarn 10;sizes a b c d e f ^abcdefghi;");
        fault(1, "gauge 20 30 yarn 10;sizes a b c d e f ^7;");
        fault(1, HEAD + "chart a k k k k k k k k ^x;");
        fault(1, HEAD + "chart a k k k k k k k k ^" + letters(13, 'k') + ";");
        fault(1, HEAD + measures(8) + "chart a k;^measure x 1 2;");
        fault(1, TABLE + charts(4) + pieces(1) + "^chart x k;");
        fault(1, TABLE + pieces(6) + "lot 0 1;^piece x;");
        // 1 before 6
        fault(1, HEAD + "chart a kk ^kx;");
        fault(1, HEAD + "chart a kk ^" + letters(13, 'k') + ";");
        fault(1, HEAD + "chart a kt ^5;");
        fault(1, HEAD + "chart a kt^");
        // 3 before 5
        fault(3, "gauge 20 30 yarn 10;sizes a b c d e f ^f;");
        fault(3, "gauge 20 30 yarn 10;sizes a b c d e f ^a;");
        // 5 before 6
        fault(5, HEAD + "chart a k k k k k k k k ^kk;");
        fault(5, HEAD + "chart a k k k k k k k ky ^k;");
    }

    private static void code1() {
        Check.sentence("Code 1: also a name of more than 8 letters, or a row of a chart with more than 12 letters or another letter, a run of more than 4 digits, the end");
        fault(1, HEAD + "piece ^abcdefghi;");
        fault(1, HEAD + "chart a ^kkkkkkkkkkkkk;");
        fault(1, HEAD + "chart a ^kka;");
        fault(1, "gauge 20 30 yarn ^00010;");
        fault(1, HEAD + "lot 0 ^99999;");
        fault(1, HEAD + "lot 0 9999^");
        fault(1, HEAD + "^00000");
    }

    private static void code2() {
        Check.sentence("Code 2: a number is out of range.");
        fault(2, "gauge 20 ^4");
        fault(2, "gauge 20 30 yarn ^0");
        fault(2, HEAD + "measure x ^3001");
        fault(2, PIECE + "cast hip plus ^1000");
        fault(2, PIECE + "cast hip by ^0");
        fault(2, PIECE + "cast hip by 8 and ^8");
        fault(2, PIECE + "cast hip color ^4");
        fault(2, CAST + "shape hip over long per ^0");
        fault(2, HEAD + "lot ^4");
        fault(2, HEAD + "lot 0 ^0");
    }

    private static void code3() {
        Check.sentence("Code 3: the name of a size, measure, chart or piece that another one has.");
        fault(3, "gauge 20 30 yarn 10;sizes s ^s");
        fault(3, "gauge 20 30 yarn 10;sizes a b c d e ^c;");
        fault(3, HEAD + measures(7) + "measure ^ma 1 2;");
        fault(3, HEAD + measures(7) + "measure ^mg");
        fault(3, HEAD + charts(3) + "chart ^cc k;");
        fault(3, TABLE + pieces(5) + "piece ^pa;");
        fault(3, TABLE + pieces(5) + "piece ^pe");
        fault(3, "gauge 20 30 yarn 10;sizes abcdefgh abcdefg ^abcdefgh;");
        Check.loads("gauge 20 30 yarn 10;sizes abcdefgh abcdefg abcdefgi;");
    }

    private static void code4() {
        Check.sentence("Code 4: the name of no measure, or of no chart.");
        fault(4, HEAD + "piece p;cast ^hip color 0;");
        fault(4, CAST + "work ^a color 0;");
        fault(4, CAST + "shape hip over ^a");
        fault(4, CAST + "work long color 0 chart ^hip;");
        fault(4, TABLE + "piece p;cast hip color 0;work long color 0 chart ^a");
        fault(4, CAST + "work long color 0 chart ^aa;");
    }

    private static void code5() {
        Check.sentence("Code 5: the name of a 7th size, the word measure, chart, piece or lot of one for which there is no room any more, the 9th row of a chart, or the word work or shape of an 11th part.");
        fault(5, "gauge 20 30 yarn 10;sizes a b c d e f ^end");
        fault(5, HEAD + measures(8) + "^measure");
        fault(5, HEAD + measures(8) + "^measure 5");
        fault(5, TABLE + charts(4) + "^chart");
        fault(5, TABLE + charts(4) + "^chart ca");
        fault(5, TABLE + pieces(6) + "^piece");
        fault(5, TABLE + pieces(6) + "^piece pa;");
        fault(5, HEAD + "lot 0 1;".repeat(10) + "^lot");
        fault(5, HEAD + "lot 0 1;".repeat(10) + "^lot 4 0");
        fault(5, HEAD + "chart a k k k k k k k k ^k");
        fault(5, CAST + "work long color 0;".repeat(9) + "^work");
        fault(5, CAST + "work long color 0;".repeat(9) + "^shape nix");
        fault(1, CAST + "work long color 0;".repeat(9) + "^lot");
    }

    private static void code6() {
        Check.sentence("Code 6: a row of a chart that takes another number of stitches than the row before it makes; the \";\" of a chart whose last row makes another number of stitches than its first row takes (also if that is the same row).");
        fault(6, HEAD + "chart a kk ^k");
        fault(6, HEAD + "chart a kk ^kkk kkk kk;");
        fault(6, HEAD + "chart a k yk ^k;");
        fault(6, HEAD + "chart a kk kk kk kk kk kk kk ^kt;");
        fault(6, HEAD + "chart a kk t^;");
        fault(6, HEAD + "chart a k yk  ^;");
        fault(6, HEAD + "chart a t^;");
        fault(6, HEAD + "chart a y^;");
        fault(6, HEAD + "chart a yyy s^;");
        fault(6, HEAD + "chart a k;chart b t^;");
        Check.loads(HEAD + "chart a kk t ky;chart b kyt;chart c yt;chart d kkk s kyy;");
    }

    private static void newObject() {
        Check.sentence("Creates a grader for the text \"..\", with an empty text buffer.");
        KnitGrader loaded = Check.loaded(FIRST);
        Check.same("a new object and one that has loaded this text", Picture.of(new KnitGrader()), Picture.of(loaded));
        Check.range("the buffer of a new object is empty", () -> new KnitGrader().truncate(1));
        Check.due("an append to it", () -> new KnitGrader().append(0, 0, 0, 0, 0), 20);
        Check.argument("nothing to load in it", () -> new KnitGrader().load());
        Check.missing("no name in it", () -> new KnitGrader().find(0));
    }

    /** A byte that starts no token at each of the 20 places, and the bits of such bytes. */
    private static void appendsBytes() {
        Check.sentence("Appends 20 bytes to the text buffer: the four bytes of each argument in order, the most significant byte first.");
        for (int place = 0; place < 20; place++) {
            for (int sign : new int[] {'A', 128, 255}) {
                int[] fours = {0x20202020, 0x20202020, 0x20202020, 0x20202020, 0x20202020};
                int shift = 24 - 8 * (place % 4);
                fours[place / 4] = fours[place / 4] & ~(255 << shift) | sign << shift;
                KnitGrader g = new KnitGrader();
                Check.due("append", () -> g.append(fours[0], fours[1], fours[2], fours[3], fours[4]), 20);
                Check.argument("load of " + sign + " at " + place, g::load);
                Check.due("position of " + sign, g::errorPosition, place);
            }
        }
        KnitGrader g = Check.loaded("gauge 20 30 yarn 10;sizes abcdefgh;");
        g.append(0x61626364, 0x65666768, 0, 0, 0);
        Check.due("twice makes 40", () -> g.append(0, 0, 0, 0, 0), 40);
        g.truncate(8);
        Check.due("a to h", () -> g.find(0), 0);
    }

    private static void appendBeyond() {
        Check.sentence("Throws IllegalStateException if the length would exceed 1500");
        KnitGrader g = new KnitGrader();
        Check.write(g, padded(HEAD + "measure hip 1 2;", 1480));
        Check.due("append at 1480", () -> g.append(0x6c6f7420, 0x30203737, 0x3b202020, 0x20202020, 0x20202020), 1500);
        Check.state("append at 1500", () -> g.append(0, 0, 0, 0, 0));
        Check.due("still 1500", () -> g.truncate(1500), 1500);
        Check.due("truncate to 1481", () -> g.truncate(1493), 1493);
        Check.state("append at 1493", () -> g.append(0x41414141, 0, 0, 0, 0));
        Check.due("back to 1493", () -> g.truncate(1493), 1493);
        Check.range("not longer than 1493", () -> g.truncate(1494));
        Check.due("truncate to 1491", () -> g.truncate(1491), 1491);
        Check.due("what is there is as it was", g::load, 0);
        Check.due("with its lot", () -> g.lot(0, 1), 77);
        for (int length = 1481; length < 1500; length += 6) {
            KnitGrader over = new KnitGrader();
            Check.write(over, " ".repeat(1480));
            over.append(0, 0, 0, 0, 0);
            over.truncate(length);
            Check.state("append at " + length, () -> over.append(0, 0, 0, 0, 0));
        }
    }

    private static void truncates() {
        Check.sentence("Truncates the text buffer. Returns the new length.");
        KnitGrader g = new KnitGrader();
        Check.due("empty to 0", () -> g.truncate(0), 0);
        Check.write(g, "long????????????????");
        Check.due("20 to 20", () -> g.truncate(20), 20);
        Check.due("20 to 19", () -> g.truncate(19), 19);
        Check.due("19 to 2", () -> g.truncate(2), 2);
        Check.due("append behind it", () -> g.append(0x6e670000, 0, 0, 0, 0), 22);
        Check.due("22 to 4", () -> g.truncate(4), 4);
        Check.due("lo and ng", () -> g.find(1), 1);
        Check.write(g, "hipx");
        Check.due("4 to 3", () -> g.truncate(3), 3);
        Check.due("hip is left", () -> g.find(1), 0);
        Check.write(g, "hip");
        Check.due("to 0", () -> g.truncate(0), 0);
        Check.missing("nothing is left", () -> g.find(1));
    }

    private static void truncateOutside() {
        Check.sentence("Throws IndexOutOfBoundsException if length is negative or greater than the current length");
        for (int length : new int[] {-1, 4, 20, 1500, 1501, Integer.MIN_VALUE, Integer.MAX_VALUE}) {
            Check.refused("truncate(" + length + ") of 3", Check.RANGE, EdgesOfTextTest::withHip, g -> g.truncate(length));
        }
        for (int length : new int[] {-1, 1}) {
            Check.refused("truncate(" + length + ") of 0", Check.RANGE, KnitGrader::new, g -> g.truncate(length));
        }
    }

    /** A grader with changes, a saved state, an error, and a name in its buffer. */
    private static KnitGrader withHip() {
        KnitGrader g = Check.loaded(CAST + "work long color 1;end;lot 0 5;");
        g.setValue(0, 0, 300);
        g.save(1);
        g.addLot(1, 6);
        Check.write(g, "gauge 20 30 yarn 10;sizes s ?");
        Check.argument("an error", g::load);
        Check.write(g, "hip");
        return g;
    }

    private static void loadForgets() {
        Check.sentence("Loads the text: nothing can be undone, and the slots are empty.");
        KnitGrader g = withHip();
        g.truncate(0);
        g.save(0);
        Check.due("changes before it", () -> g.count(8), 2);
        Check.write(g, CAST + "work long color 1;end;lot 0 5;");
        Check.due("load", g::load, 1);
        Check.due("no changes behind it", () -> g.count(8), 0);
        Check.state("undo", g::undo);
        Check.missing("restore(0)", Check.done(() -> g.restore(0)));
        Check.missing("restore(1)", Check.done(() -> g.restore(1)));
        Check.missing("differences(0)", () -> g.differences(0));
        Check.missing("differences(1)", () -> g.differences(1));
        Check.same("as if loaded first", Picture.of(g), Picture.of(Check.loaded(CAST + "work long color 1;end;lot 0 5;")));
    }

    private static void bufferIsEmptyAfterLoad() {
        Check.sentence("The buffer is empty afterwards in every case.");
        for (String text : new String[] {HEAD, HEAD + "?", "", "gauge", " ".repeat(1500), letters(1500, ';')}) {
            KnitGrader g = new KnitGrader();
            Check.write(g, text);
            Check.told(g::load);
            Check.range("truncate(1) behind load of " + text, () -> g.truncate(1));
            Check.due("append behind it", () -> g.append(0, 0, 0, 0, 0), 20);
        }
    }

    /** Nothing of an earlier text is left, nor of one with an error that was read in part. */
    private static void loadAfterAnother() {
        Check.sentence("Loads the text (and nothing of another one)");
        String[] texts = {"gauge 20 30 yarn 10;sizes a;", FIRST,
            "gauge 10 10 yarn 1;sizes a;measure x 100;piece p;cast x color 1;work x color 2;end;piece q;cast x color 0;work x color 3;end;piece r;cast x color 1;work x color 2;end;lot 1 9;",
            "gauge 10 10 yarn 1;sizes a b;measure hip 100 120;measure long 40 40;chart x kkk;piece p;cast hip color 1;work long color 2;end;piece q;cast long color 0;work hip color 3;end;lot 0 1;",
            "gauge 10 10 yarn 9;sizes a b c;measure hip 90 93 95;measure long 50 60 70;measure m 1 2 3;chart x k yk kk kk t k p k;chart y kyt;chart z kyy s;"
                + "piece p;cast hip plus 3 by 3 and 2 color 1;shape long minus 4 by 2 over hip per 4 color 2;work long color 3 chart z;end;"
                + "piece q;cast long plus 7 color 0;shape hip over long per 2 color 1;end;piece r;cast hip by 9 color 0;work m color 1 chart y;end;lot 1 3;lot 2 4;lot 3 5;"};
        for (String first : texts) {
            for (String second : texts) {
                KnitGrader g = Check.loaded(first);
                Check.write(g, second);
                Check.due("load", () -> g.load() >= 0, true);
                Check.same("what is seen of " + second + " behind " + first, Picture.of(g), Picture.of(Check.loaded(second)));
                KnitGrader spoilt = new KnitGrader();
                Check.write(spoilt, first + "?");
                Check.argument("an error", spoilt::load);
                Check.write(spoilt, second);
                Check.due("load", () -> spoilt.load() >= 0, true);
                Check.same("what is seen of " + second + " behind an error in " + first, Picture.of(spoilt), Picture.of(Check.loaded(second)));
            }
        }
        KnitGrader names = Check.loaded("gauge 20 30 yarn 10;sizes a b;measure b 1 2;measure c 1 2;chart c k;chart d k;piece d;cast b color 0;end;piece e;cast b color 0;end;");
        Check.write(names, "gauge 20 30 yarn 10;sizes a;measure b 1;chart c k;piece d;cast b color 0;end;");
        Check.due("load", names::load, 1);
        for (int kind = 0; kind < 4; kind++) {
            int what = kind;
            Check.write(names, String.valueOf(letter(kind + 1)));
            Check.missing("a name that was there", () -> names.find(what));
            Check.write(names, String.valueOf(letter(kind)));
            Check.due("a name that is there", () -> names.find(what), 0);
        }
        KnitGrader fails = Check.loaded("gauge 10 10 yarn 1;sizes s;measure a 100;chart x kkk;piece p;cast a color 0;end;piece q;cast a color 0;work a color 1 chart x;end;");
        Check.write(fails, "gauge 10 10 yarn 1;sizes s;measure a 100;piece p;cast a color 0;end;lot 0 1;");
        Check.due("load", fails::load, 1);
        Check.due("no piece fails", () -> fails.setGauge(10, 10, 1), 0);
        Check.due("a piece that was there is not knitted", fails::possible, 1);
        Check.due("nor dealt", () -> fails.lotsUsed(0), 1);
        fails.save(0);
        fails.setValue(0, 0, 110);
        Check.due("nor compared", () -> fails.differences(0), 1);
        KnitGrader dealt = Check.loaded("gauge 10 10 yarn 99;sizes s;measure a 100;piece p;cast a color 0;end;piece q;cast a color 0;end;lot 0 2;");
        Check.due("990 and 990 millimeters", dealt::possible, 1);
        Check.write(dealt, "gauge 10 10 yarn 99;sizes s;measure a 100;piece p;cast a color 0;end;lot 0 1;");
        Check.due("load", dealt::load, 1);
        Check.due("990 millimeters alone", dealt::possible, 1);
        Check.due("from one lot", () -> dealt.dealt(0, 0, 0), 0);
    }

    private static void loadCountsPieces() {
        Check.sentence("Returns the number of pieces.");
        for (int count = 0; count <= 6; count++) {
            KnitGrader g = new KnitGrader();
            Check.write(g, TABLE + pieces(count));
            Check.due("load of " + count + " pieces", g::load, count);
        }
    }

    private static void errorStaysOut() {
        Check.sentence("if the text has an error; everything else stays then, but the error code and position are set");
        String[] wrong = {"", "gauge 5 5 yarn 1;sizes a b c d e f;?", "gauge 5 5 yarn 1;sizes a;measure hip 3000;chart a kkkk;piece x;cast hip plus 9 color 3;end;lot 3 7;lot 3 8;lot 4",
            "gauge 5 5 yarn 1;sizes a b c d e f;measure hip 1 2 3 4 5 6;measure hip"};
        for (String text : wrong) {
            KnitGrader asked = withHip();
            asked.truncate(0);
            Check.write(asked, text);
            Check.argument("load of " + text, asked::load);
            String seen = Picture.of(asked).replaceFirst("code [0-9]; position [0-9]+; ", "");
            KnitGrader other = withHip();
            other.truncate(0);
            Check.same("what is seen behind it", seen, Picture.of(other).replaceFirst("code [0-9]; position [0-9]+; ", ""));
        }
    }

    private static void errorOfLatestLoad() {
        Check.sentence("Returns 1 to 6; 0 if there was no error or no call yet. / Returns the position; NONE if there was no error or no call yet.");
        KnitGrader g = new KnitGrader();
        Check.due("code before any load", g::errorCode, 0);
        Check.due("position before any load", g::errorPosition, -1);
        String[] texts = {"?", HEAD + "lot 4", "gauge 20 30 yarn 10;sizes s s", HEAD + "piece p;cast x", "gauge 20 30 yarn 10;sizes a b c d e f g", HEAD + "chart a t;", HEAD, "", HEAD};
        int[] codes = {1, 2, 3, 4, 5, 6, 0, 1, 0};
        int[] positions = {0, 34, 28, 43, 38, 39, -1, 0, -1};
        for (int i = 0; i < texts.length; i++) {
            Check.write(g, texts[i]);
            Check.told(g::load);
            Check.due("code of " + texts[i], g::errorCode, codes[i]);
            Check.due("position of " + texts[i], g::errorPosition, positions[i]);
        }
        KnitGrader kept = withHip();
        Check.told(() -> kept.find(0));
        Check.told(() -> kept.undo());
        kept.addLot(0, 1);
        kept.restore(1);
        Check.told(() -> kept.count(99));
        Check.due("the code stays until the next load", kept::errorCode, 1);
        Check.due("the position stays until the next load", kept::errorPosition, 28);
    }

    private static void finds() {
        Check.sentence("Finds what has the name that is the content of the text buffer: 0 a size, 1 a measure, 2 a chart, 3 a piece");
        KnitGrader g = Check.loaded(HEAD + measures(8).replace("ma ", "hip ") + charts(4) + pieces(6).replace("hip", "mb") + "lot 0 1;");
        String[][] names = {{"s", "m"}, {"hip", "mb", "mc", "md", "me", "mf", "mg", "mh"}, {"ca", "cb", "cc", "cd"}, {"pa", "pb", "pc", "pd", "pe", "pf"}};
        for (int kind = 0; kind < 4; kind++) {
            int what = kind;
            for (int i = 0; i < names[kind].length; i++) {
                Check.write(g, names[kind][i]);
                Check.due("find " + names[kind][i], () -> g.find(what), i);
                Check.write(g, names[kind][i]);
                Check.missing(names[kind][i] + " of another kind", () -> g.find((what + 1) % 4));
            }
        }
    }

    private static void findsByteByByte() {
        Check.sentence("the content of the text buffer, byte by byte");
        KnitGrader g = Check.loaded(HEAD + "measure hip 1 2;measure a 1 2;measure abcdefgh 1 2;");
        String[] others = {"", " ", "hi", "ip", "hipp", "hhip", " hip", "hip ", "hip\n", "\nhip", "hip;", "HIP", "hi\0", "hip\0", "\0hip", "\0a", "\0\0\0\0\0\0\0a", "a\0\0\0\0\0\0\0", "aa",
            "abcdefg", "bcdefgh", "abcdefghi", "xabcdefgh", "\0abcdefgh", "abcdefgh\0", "abcdefghabcdefgh", "\u00e1", "hiq", "hio", "iip", "gip", "hap",
            padded("hip", 20), padded("hip", 1500), letters(1500, 'a')};
        for (String other : others) {
            Check.write(g, other);
            Check.missing("find " + other, () -> g.find(1));
        }
        String[] names = {"hip", "a", "abcdefgh"};
        for (int i = 0; i < 3; i++) {
            Check.write(g, names[i]);
            Check.due("find " + names[i], () -> g.find(1), i);
        }
    }

    /** Each letter of a name counts, by each of its bits. */
    private static void findsByEachLetter() {
        Check.sentence("the content of the text buffer, byte by byte (of 8 letters each one)");
        String name = "abcdmxyz";
        for (int at = 0; at < 8; at++) {
            KnitGrader g = Check.loaded(HEAD + "measure " + name + " 1 2;");
            for (char other = 'a'; other <= 'z'; other++) {
                Check.write(g, name.substring(0, at) + other + name.substring(at + 1));
                Check.due("find with " + other + " at " + at, () -> g.find(1), other == name.charAt(at) ? 0 : Check.MISSING);
            }
        }
    }

    private static void findEmptiesTheBuffer() {
        Check.sentence("The buffer is empty afterwards, if what is in range.");
        KnitGrader g = new KnitGrader();
        String[] names = {"s", "hip", "x", "back"};
        for (int kind = 0; kind < 4; kind++) {
            int what = kind;
            Check.write(g, names[kind]);
            Check.told(() -> g.find(what));
            Check.range("empty behind find(" + kind + ")", () -> g.truncate(1));
            Check.due("an append behind it", () -> g.append(0, 0, 0, 0, 0), 20);
            g.truncate(0);
        }
    }

    private static void findOutside() {
        Check.sentence("Throws IllegalArgumentException if what is out of range");
        for (int what : new int[] {-1, 4, 8, Integer.MIN_VALUE, Integer.MAX_VALUE}) {
            Check.refused("find(" + what + ") of a name", Check.ARGUMENT, EdgesOfTextTest::withHip, g -> g.find(what));
            Check.refused("find(" + what + ") of nothing", Check.ARGUMENT, KnitGrader::new, g -> g.find(what));
        }
    }

    private static void findsNothing() {
        Check.sentence("Throws NoSuchElementException if there is none with this name (the buffer is empty then, too)");
        for (int kind = 0; kind < 4; kind++) {
            int what = kind;
            if (kind != 1) {
                KnitGrader asked = withHip();
                Check.missing("find(" + kind + ") of hip", () -> asked.find(what));
                Check.range("empty behind it", () -> asked.truncate(1));
                KnitGrader other = withHip();
                other.truncate(0);
                Check.same("all else as it was", Picture.of(asked), Picture.of(other));
            }
            Check.missing("find(" + kind + ") of nothing", () -> new KnitGrader().find(what));
        }
        KnitGrader none = Check.loaded("gauge 20 30 yarn 10;sizes s;");
        for (int kind = 1; kind < 4; kind++) {
            int what = kind;
            Check.missing("there is nothing of kind " + kind, () -> none.find(what));
        }
    }
}
