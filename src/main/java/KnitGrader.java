import java.util.NoSuchElementException;

public final class KnitGrader {
    public static final int NONE = -1;

    private static final String FIRST_TEXT = "gauge 20 30 yarn 10;sizes s m;measure hip 400 450;measure long 100 120;piece back;cast hip color 0;work long color 0;end;lot 0 100;";

    private static final int MOST_BYTES = 1500;
    private static final int APPENDED_BYTES = 20;
    private static final int MOST_SIZES = 6;
    private static final int MOST_MEASURES = 8;
    private static final int MOST_CHARTS = 4;
    private static final int MOST_CHART_ROWS = 8;
    private static final int MOST_PIECES = 6;
    private static final int MOST_PARTS = 10;
    private static final int MOST_LOTS = 10;
    private static final int MOST_UNDOS = 8;
    private static final int SLOTS = 2;
    private static final int COLORS = 4;
    private static final int GREATEST_VALUE = 3000;
    private static final int GREATEST_EASE = 999;
    private static final int GREATEST_METERS = 9999;
    private static final int LEAST_GAUGE = 5;
    private static final int GREATEST_GAUGE = 99;
    private static final int GREATEST_MULTIPLE = 30;
    private static final int GREATEST_PER = 4;
    private static final int MILLIMETERS_OF_METER = 1000;

    // What can have a name, numbered as find() and count() do.
    private static final int SIZES = 0;
    private static final int MEASURES = 1;
    private static final int CHARTS = 2;
    private static final int PIECES = 3;
    private static final int NAMED_KINDS = 4;
    private static final int NAME_ROOM = 8;
    private static final int NAME_LETTERS = 8;
    private static final int CHART_LETTERS = 12;

    private static final int CAST = 0;
    private static final int WORK = 1;
    private static final int SHAPE = 2;

    // What is told of a part, numbered as part() does.
    private static final int KIND = 0;
    private static final int COLOR = 1;
    private static final int WIDTH_MEASURE = 2;
    private static final int EASE = 3;
    private static final int MULTIPLE = 4;
    private static final int REMAINDER = 5;
    private static final int LENGTH_MEASURE = 6;
    private static final int PER = 7;
    private static final int CHART = 8;
    private static final int FACTS = 9;

    // Where a state holds what can change.
    private static final int GAUGE_STITCHES = 0;
    private static final int GAUGE_ROWS = 1;
    private static final int GAUGE_YARN = 2;
    private static final int LOT_COUNT = 3;
    private static final int LOT_COLORS = 4;
    private static final int LOT_METERS = LOT_COLORS + MOST_LOTS;
    private static final int VALUES = LOT_METERS + MOST_LOTS;
    private static final int EASES = VALUES + MOST_MEASURES * MOST_SIZES;
    private static final int STATE_CELLS = EASES + MOST_PIECES * MOST_PARTS;

    // Kinds of tokens. The words that no name can be stand last.
    private static final int NO_TOKEN = -1;
    private static final int TOKEN_BAD = 0;
    private static final int TOKEN_END = 1;
    private static final int TOKEN_NUMBER = 2;
    private static final int TOKEN_SEMICOLON = 3;
    private static final int WORD_FREE = 4;
    private static final int WORD_GAUGE = 5;
    private static final int WORD_YARN = 6;
    private static final int WORD_SIZES = 7;
    private static final int WORD_MEASURE = 8;
    private static final int WORD_PIECE = 9;
    private static final int WORD_CAST = 10;
    private static final int WORD_WORK = 11;
    private static final int WORD_SHAPE = 12;
    private static final int WORD_END = 13;
    private static final int WORD_LOT = 14;
    private static final int WORD_AND = 15;
    private static final int WORD_PLUS = 16;
    private static final int WORD_MINUS = 17;
    private static final int WORD_BY = 18;
    private static final int WORD_COLOR = 19;
    private static final int WORD_CHART = 20;
    private static final int WORD_OVER = 21;
    private static final int WORD_PER = 22;
    private static final int NUMBER_DIGITS = 4;

    private static final int WRONG_TOKEN = 1;
    private static final int WRONG_NUMBER = 2;
    private static final int NAME_TAKEN = 3;
    private static final int NAME_UNKNOWN = 4;
    private static final int NO_ROOM = 5;
    private static final int WRONG_STITCHES = 6;

    // The cost of a dealing: its number of lots, then four bits for the lot of each piece.
    private static final int PIECE_SETS = 1 << MOST_PIECES;
    private static final int LOT_BITS = 4;
    private static final int LOT_MASK = (1 << LOT_BITS) - 1;
    private static final int COUNT_SHIFT = LOT_BITS * MOST_PIECES;
    private static final int NO_DEALING = 0x7fffffff;

    private final Text text;
    private final Reader reader;
    private final Pattern pattern;
    private final State state;
    private final State otherState;
    private final Plan plan;
    private final Plan otherPlan;
    private final Dealer dealer;
    private final Shelf past;
    private final Shelf slots;
    private int undoCount;
    private int undoTop;
    private int savedSlots;
    private int faultCode;
    private int faultPosition;

    public KnitGrader() {
        text = new Text();
        reader = new Reader(text);
        pattern = new Pattern();
        state = new State();
        otherState = new State();
        plan = new Plan(pattern);
        otherPlan = new Plan(pattern);
        dealer = new Dealer(pattern, plan);
        past = new Shelf(MOST_UNDOS);
        slots = new Shelf(SLOTS);
        undoCount = 0;
        undoTop = 0;
        savedSlots = 0;
        faultCode = 0;
        faultPosition = NONE;
        text.addText(FIRST_TEXT);
        reader.readText();
        text.shorten(0);
        pattern.copyFrom(reader.pattern);
        state.copyFrom(reader.state);
    }

    public int append(int a, int b, int c, int d, int e) throws IllegalStateException {
        if (text.length > MOST_BYTES - APPENDED_BYTES) {
            throw new IllegalStateException();
        }
        text.addFour(a);
        text.addFour(b);
        text.addFour(c);
        text.addFour(d);
        text.addFour(e);
        return text.length;
    }

    public int truncate(int length) throws IndexOutOfBoundsException {
        if (length < 0 || length > text.length) {
            throw new IndexOutOfBoundsException();
        }
        text.shorten(length);
        return length;
    }

    public int load() throws IllegalArgumentException {
        boolean sound = reader.readText();
        text.shorten(0);
        faultCode = reader.faultCode;
        faultPosition = reader.faultPosition;
        if (!sound) {
            throw new IllegalArgumentException();
        }
        pattern.copyFrom(reader.pattern);
        state.copyFrom(reader.state);
        undoCount = 0;
        savedSlots = 0;
        return pattern.total(PIECES);
    }

    public int errorCode() {
        return faultCode;
    }

    public int errorPosition() {
        return faultPosition;
    }

    public int find(int what) throws IllegalArgumentException, NoSuchElementException {
        checkRange(what, 0, NAMED_KINDS - 1);
        int found = pattern.numberOf(what, text.packedName(0, text.length));
        text.shorten(0);
        if (found == NONE) {
            throw new NoSuchElementException();
        }
        return found;
    }

    public int count(int what) throws IllegalArgumentException {
        checkRange(what, 0, 8);
        switch (what) {
            case 4:
                return state.lots();
            case 5:
                return state.cell(GAUGE_STITCHES);
            case 6:
                return state.cell(GAUGE_ROWS);
            case 7:
                return state.cell(GAUGE_YARN);
            case 8:
                return undoCount;
            default:
                return pattern.total(what);
        }
    }

    public int value(int measure, int size) throws IndexOutOfBoundsException {
        checkIndex(measure, pattern.total(MEASURES));
        checkIndex(size, pattern.total(SIZES));
        return state.measured(measure, size);
    }

    public boolean isGraded(int measure) throws IndexOutOfBoundsException {
        checkIndex(measure, pattern.total(MEASURES));
        int sizes = pattern.total(SIZES);
        for (int size = 1; size < sizes; size++) {
            if (state.measured(measure, size) < state.measured(measure, size - 1)) {
                return false;
            }
        }
        return true;
    }

    public int fits(int measure, int millimeters) throws IndexOutOfBoundsException, IllegalArgumentException {
        checkIndex(measure, pattern.total(MEASURES));
        checkRange(millimeters, 0, GREATEST_VALUE);
        int sizes = pattern.total(SIZES);
        int nearest = 0;
        int least = Math.abs(state.measured(measure, 0) - millimeters);
        for (int size = 1; size < sizes; size++) {
            int distance = Math.abs(state.measured(measure, size) - millimeters);
            if (distance < least) {
                least = distance;
                nearest = size;
            }
        }
        return nearest;
    }

    public int chart(int chart, int what) throws IndexOutOfBoundsException, IllegalArgumentException {
        checkIndex(chart, pattern.total(CHARTS));
        checkRange(what, 0, 2);
        if (what == 0) {
            return pattern.chartRowTotal(chart);
        }
        return what == 1 ? pattern.taken(chart, 0) : pattern.mostMade(chart);
    }

    public int chartRow(int chart, int row, boolean makes) throws IndexOutOfBoundsException {
        checkIndex(chart, pattern.total(CHARTS));
        checkIndex(row, pattern.chartRowTotal(chart));
        return makes ? pattern.made(chart, row) : pattern.taken(chart, row);
    }

    public int part(int piece, int part, int what) throws IndexOutOfBoundsException, IllegalArgumentException {
        checkPart(piece, part);
        checkRange(what, 0, FACTS - 1);
        return what == EASE ? state.easeOf(piece, part) : pattern.fact(piece, part, what);
    }

    public int parts(int piece) throws IndexOutOfBoundsException {
        checkIndex(piece, pattern.total(PIECES));
        return pattern.partTotal(piece);
    }

    public int failure(int size, int piece) throws IndexOutOfBoundsException {
        planPiece(size, piece);
        return plan.failCode;
    }

    public int rows(int size, int piece) throws IndexOutOfBoundsException {
        planPiece(size, piece);
        return plan.rowTotal;
    }

    public int partRows(int size, int piece, int part) throws IndexOutOfBoundsException, IllegalStateException {
        planPart(size, piece, part);
        return plan.rowsOf(part);
    }

    public int stitches(int size, int piece, int row) throws IndexOutOfBoundsException {
        planRow(size, piece, row);
        return plan.stitchesBehind(row);
    }

    public int partAt(int size, int piece, int row) throws IndexOutOfBoundsException {
        planRow(size, piece, row);
        return plan.partOfRow(row);
    }

    public int extreme(int size, int piece, boolean greatest) throws IndexOutOfBoundsException {
        planPiece(size, piece);
        return greatest ? plan.greatestStitches() : plan.leastStitches();
    }

    public int shaping(int size, int piece, int part, int index) throws IndexOutOfBoundsException, IllegalStateException, NoSuchElementException {
        planPart(size, piece, part);
        if (index < 0 || index >= plan.shapingsOf(part)) {
            throw new NoSuchElementException();
        }
        return plan.shapingRow(part, index);
    }

    public float width(int size, int piece, int row) throws IndexOutOfBoundsException {
        planRow(size, piece, row);
        int gauge = state.cell(GAUGE_STITCHES);
        return gauge < 1 ? 0.0f : plan.stitchesBehind(row) * 100.0f / gauge;
    }

    public double mean(int size, int piece) throws IndexOutOfBoundsException {
        planPiece(size, piece);
        return plan.rowTotal < 1 ? 0.0 : (double) plan.stitchSum() / plan.rowTotal;
    }

    public long need(int size, int piece, int color) throws IndexOutOfBoundsException, IllegalArgumentException {
        planPiece(size, piece);
        checkRange(color, 0, COLORS - 1);
        return plan.stitchSumIn(color) * state.cell(GAUGE_YARN);
    }

    public int lot(int lot, int what) throws IndexOutOfBoundsException, IllegalArgumentException {
        checkIndex(lot, state.lots());
        checkRange(what, 0, 1);
        return what == 0 ? state.lotColor(lot) : state.lotMeters(lot);
    }

    public int dealt(int size, int piece, int color) throws IndexOutOfBoundsException, IllegalArgumentException, IllegalStateException, NoSuchElementException {
        checkIndex(size, pattern.total(SIZES));
        checkIndex(piece, pattern.total(PIECES));
        checkRange(color, 0, COLORS - 1);
        if (!dealer.gather(state, size)) {
            throw new IllegalStateException();
        }
        int dealing = dealer.bestDealing(state, color);
        if (dealing == NO_DEALING) {
            throw new NoSuchElementException();
        }
        return dealer.needOf(piece, color) > 0 ? dealer.lotIn(dealing, piece) : NONE;
    }

    public int lotsUsed(int size) throws IndexOutOfBoundsException, IllegalStateException, NoSuchElementException {
        checkIndex(size, pattern.total(SIZES));
        if (!dealer.gather(state, size)) {
            throw new IllegalStateException();
        }
        int used = dealer.lotsOfAll(state);
        if (used == NONE) {
            throw new NoSuchElementException();
        }
        return used;
    }

    public int possible() {
        int sizes = pattern.total(SIZES);
        int set = 0;
        for (int size = 0; size < sizes; size++) {
            if (dealer.gather(state, size) && dealer.lotsOfAll(state) != NONE) {
                set |= 1 << size;
            }
        }
        return set;
    }

    public int setGauge(int stitches, int rows, int yarn) throws IllegalArgumentException {
        checkRange(stitches, LEAST_GAUGE, GREATEST_GAUGE);
        checkRange(rows, LEAST_GAUGE, GREATEST_GAUGE);
        checkRange(yarn, 1, GREATEST_GAUGE);
        rememberForUndo();
        state.setCell(GAUGE_STITCHES, stitches);
        state.setCell(GAUGE_ROWS, rows);
        state.setCell(GAUGE_YARN, yarn);
        return failingPieces();
    }

    public int setValue(int measure, int size, int value) throws IndexOutOfBoundsException, IllegalArgumentException {
        checkIndex(measure, pattern.total(MEASURES));
        checkIndex(size, pattern.total(SIZES));
        checkRange(value, 0, GREATEST_VALUE);
        rememberForUndo();
        int previous = state.measured(measure, size);
        state.setMeasured(measure, size, value);
        return previous;
    }

    public int grade(int measure, int first, int step) throws IndexOutOfBoundsException, IllegalArgumentException {
        checkIndex(measure, pattern.total(MEASURES));
        int sizes = pattern.total(SIZES);
        // The values lie between the outer two, so that these alone need a look.
        long last = first + (long) step * (sizes - 1);
        checkRange(first, 0, GREATEST_VALUE);
        if (last < 0 || last > GREATEST_VALUE) {
            throw new IllegalArgumentException();
        }
        rememberForUndo();
        for (int size = 0; size < sizes; size++) {
            state.setMeasured(measure, size, first + step * size);
        }
        return (int) last;
    }

    public int setEase(int piece, int part, int ease) throws IndexOutOfBoundsException, IllegalArgumentException, IllegalStateException {
        checkPart(piece, part);
        checkRange(ease, -GREATEST_EASE, GREATEST_EASE);
        if (pattern.fact(piece, part, WIDTH_MEASURE) == NONE) {
            throw new IllegalStateException();
        }
        rememberForUndo();
        int previous = state.easeOf(piece, part);
        state.setEaseOf(piece, part, ease);
        return previous;
    }

    public int addLot(int color, int meters) throws IllegalArgumentException, IllegalStateException {
        checkRange(color, 0, COLORS - 1);
        checkRange(meters, 1, GREATEST_METERS);
        if (state.lots() >= MOST_LOTS) {
            throw new IllegalStateException();
        }
        rememberForUndo();
        state.appendLot(color, meters);
        return state.lots() - 1;
    }

    public int removeLot(int lot) throws IndexOutOfBoundsException {
        checkIndex(lot, state.lots());
        rememberForUndo();
        int meters = state.lotMeters(lot);
        state.dropLot(lot);
        return meters;
    }

    public int undo() throws IllegalStateException {
        if (undoCount < 1) {
            throw new IllegalStateException();
        }
        undoTop = (undoTop + MOST_UNDOS - 1) % MOST_UNDOS;
        undoCount--;
        past.bring(undoTop, state);
        return undoCount;
    }

    public void save(int slot) throws IndexOutOfBoundsException {
        checkIndex(slot, SLOTS);
        slots.keep(slot, state);
        savedSlots |= 1 << slot;
    }

    public void restore(int slot) throws IndexOutOfBoundsException, NoSuchElementException {
        checkSaved(slot);
        slots.bring(slot, state);
        undoCount = 0;
    }

    public int differences(int slot) throws IndexOutOfBoundsException, NoSuchElementException {
        checkSaved(slot);
        slots.bring(slot, otherState);
        int sizes = pattern.total(SIZES);
        int pieces = pattern.total(PIECES);
        int different = 0;
        for (int size = 0; size < sizes; size++) {
            for (int piece = 0; piece < pieces; piece++) {
                plan.knit(state, size, piece);
                otherPlan.knit(otherState, size, piece);
                if (!plan.knitsLike(otherPlan)) {
                    different++;
                }
            }
        }
        return different;
    }

    private static void checkIndex(int index, int bound) {
        if (index < 0 || index >= bound) {
            throw new IndexOutOfBoundsException();
        }
    }

    private static void checkRange(int number, int least, int greatest) {
        if (number < least || number > greatest) {
            throw new IllegalArgumentException();
        }
    }

    private void checkPart(int piece, int part) {
        checkIndex(piece, pattern.total(PIECES));
        checkIndex(part, pattern.partTotal(piece));
    }

    private void checkSaved(int slot) {
        checkIndex(slot, SLOTS);
        if ((savedSlots & 1 << slot) == 0) {
            throw new NoSuchElementException();
        }
    }

    private void planPiece(int size, int piece) {
        checkIndex(size, pattern.total(SIZES));
        checkIndex(piece, pattern.total(PIECES));
        plan.knit(state, size, piece);
    }

    private void planRow(int size, int piece, int row) {
        planPiece(size, piece);
        checkIndex(row, plan.rowTotal);
    }

    private void planPart(int size, int piece, int part) {
        planPiece(size, piece);
        checkIndex(part, pattern.partTotal(piece));
        if (part >= plan.partTotal) {
            throw new IllegalStateException();
        }
    }

    private int failingPieces() {
        int sizes = pattern.total(SIZES);
        int pieces = pattern.total(PIECES);
        int failing = 0;
        for (int size = 0; size < sizes; size++) {
            for (int piece = 0; piece < pieces; piece++) {
                plan.knit(state, size, piece);
                if (plan.failCode != 0) {
                    failing++;
                }
            }
        }
        return failing;
    }

    private void rememberForUndo() {
        past.keep(undoTop, state);
        undoTop = (undoTop + 1) % MOST_UNDOS;
        if (undoCount < MOST_UNDOS) {
            undoCount++;
        }
    }

    /** Reads and writes of arrays that look at the index first, so that no read or write can throw. */
    static final class Cells {
        static int at(int[] cells, int index) {
            return index >= 0 && index < cells.length ? cells[index] : 0;
        }

        static long at(long[] cells, int index) {
            return index >= 0 && index < cells.length ? cells[index] : 0;
        }

        static void put(int[] cells, int index, int number) {
            if (index >= 0 && index < cells.length) {
                cells[index] = number;
            }
        }

        static void put(long[] cells, int index, long number) {
            if (index >= 0 && index < cells.length) {
                cells[index] = number;
            }
        }

        static void copy(int[] from, int fromIndex, int[] to, int toIndex, int cells) {
            for (int i = 0; i < cells; i++) {
                put(to, toIndex + i, at(from, fromIndex + i));
            }
        }

        static void copyAll(int[] from, int[] to) {
            copy(from, 0, to, 0, to.length);
        }
    }

    /** The text buffer. */
    static final class Text {
        private final byte[] bytes;
        private int length;

        Text() {
            bytes = new byte[MOST_BYTES];
            length = 0;
        }

        int byteAt(int index) {
            return index >= 0 && index < length && index < bytes.length ? bytes[index] & 255 : 0;
        }

        void shorten(int newLength) {
            length = newLength;
        }

        void addByte(int number) {
            if (length >= 0 && length < bytes.length) {
                bytes[length] = (byte) number;
                length++;
            }
        }

        void addFour(int four) {
            addByte(four >>> 24);
            addByte(four >>> 16);
            addByte(four >>> 8);
            addByte(four);
        }

        void addText(String added) {
            for (int i = 0; i < added.length(); i++) {
                addByte(added.charAt(i));
            }
        }

        boolean isLetter(int index) {
            int sign = byteAt(index);
            return sign >= 'a' && sign <= 'z';
        }

        boolean isDigit(int index) {
            int sign = byteAt(index);
            return sign >= '0' && sign <= '9';
        }

        boolean isBlank(int index) {
            int sign = byteAt(index);
            return sign == 10 || sign == 32;
        }

        boolean holdsWord(int start, int end, String word) {
            if (end - start != word.length()) {
                return false;
            }
            for (int i = 0; i < word.length(); i++) {
                if (byteAt(start + i) != word.charAt(i)) {
                    return false;
                }
            }
            return true;
        }

        int digitsValue(int start, int end) {
            int number = 0;
            for (int i = start; i < end; i++) {
                number = number * 10 + byteAt(i) - '0';
            }
            return number;
        }

        /** The letters as one number, a byte each; 0 if they are no name by their length or by another sign. */
        long packedName(int start, int end) {
            if (end - start > NAME_LETTERS) {
                return 0;
            }
            long packed = 0;
            for (int i = start; i < end; i++) {
                if (!isLetter(i)) {
                    return 0;
                }
                packed = packed << 8 | byteAt(i);
            }
            return packed;
        }
    }

    /** What only a text can change: the names, the charts, and the parts of the pieces but for their ease. */
    static final class Pattern {
        private final long[] names;
        private final int[] nameCounts;
        private final int[] chartRowCounts;
        private final int[] rowTakes;
        private final int[] rowMakes;
        private final int[] partCounts;
        private final int[] facts;

        Pattern() {
            names = new long[NAMED_KINDS * NAME_ROOM];
            nameCounts = new int[NAMED_KINDS];
            chartRowCounts = new int[MOST_CHARTS];
            rowTakes = new int[MOST_CHARTS * MOST_CHART_ROWS];
            rowMakes = new int[MOST_CHARTS * MOST_CHART_ROWS];
            partCounts = new int[MOST_PIECES];
            facts = new int[MOST_PIECES * MOST_PARTS * FACTS];
        }

        void copyFrom(Pattern other) {
            for (int i = 0; i < names.length; i++) {
                Cells.put(names, i, Cells.at(other.names, i));
            }
            Cells.copyAll(other.nameCounts, nameCounts);
            Cells.copyAll(other.chartRowCounts, chartRowCounts);
            Cells.copyAll(other.rowTakes, rowTakes);
            Cells.copyAll(other.rowMakes, rowMakes);
            Cells.copyAll(other.partCounts, partCounts);
            Cells.copyAll(other.facts, facts);
        }

        void empty() {
            for (int kind = 0; kind < NAMED_KINDS; kind++) {
                Cells.put(nameCounts, kind, 0);
            }
        }

        int total(int kind) {
            return Cells.at(nameCounts, kind);
        }

        boolean isFull(int kind) {
            switch (kind) {
                case SIZES:
                    return total(kind) >= MOST_SIZES;
                case MEASURES:
                    return total(kind) >= MOST_MEASURES;
                case CHARTS:
                    return total(kind) >= MOST_CHARTS;
                default:
                    return total(kind) >= MOST_PIECES;
            }
        }

        int numberOf(int kind, long name) {
            int named = Cells.at(nameCounts, kind);
            for (int i = 0; i < named; i++) {
                if (Cells.at(names, kind * NAME_ROOM + i) == name) {
                    return i;
                }
            }
            return NONE;
        }

        int addName(int kind, long name) {
            int number = total(kind);
            Cells.put(names, kind * NAME_ROOM + number, name);
            Cells.put(nameCounts, kind, number + 1);
            if (kind == CHARTS) {
                Cells.put(chartRowCounts, number, 0);
            }
            if (kind == PIECES) {
                Cells.put(partCounts, number, 0);
            }
            return number;
        }

        int chartRowTotal(int chart) {
            return Cells.at(chartRowCounts, chart);
        }

        int taken(int chart, int row) {
            return Cells.at(rowTakes, chart * MOST_CHART_ROWS + row);
        }

        int made(int chart, int row) {
            return Cells.at(rowMakes, chart * MOST_CHART_ROWS + row);
        }

        int mostMade(int chart) {
            int rows = chartRowTotal(chart);
            int most = 0;
            for (int row = 0; row < rows; row++) {
                most = Math.max(most, made(chart, row));
            }
            return most;
        }

        int leastMade(int chart) {
            int rows = chartRowTotal(chart);
            int least = made(chart, 0);
            for (int row = 1; row < rows; row++) {
                least = Math.min(least, made(chart, row));
            }
            return least;
        }

        int madeByAll(int chart) {
            int rows = chartRowTotal(chart);
            int sum = 0;
            for (int row = 0; row < rows; row++) {
                sum += made(chart, row);
            }
            return sum;
        }

        boolean isClosed(int chart) {
            return made(chart, chartRowTotal(chart) - 1) == taken(chart, 0);
        }

        void addChartRow(int chart, int takes, int makes) {
            int row = chartRowTotal(chart);
            Cells.put(rowTakes, chart * MOST_CHART_ROWS + row, takes);
            Cells.put(rowMakes, chart * MOST_CHART_ROWS + row, makes);
            Cells.put(chartRowCounts, chart, row + 1);
        }

        int partTotal(int piece) {
            return Cells.at(partCounts, piece);
        }

        int addPart(int piece, int kind) {
            int part = partTotal(piece);
            for (int what = 0; what < FACTS; what++) {
                setFact(piece, part, what, 0);
            }
            setFact(piece, part, KIND, kind);
            setFact(piece, part, WIDTH_MEASURE, NONE);
            setFact(piece, part, LENGTH_MEASURE, NONE);
            setFact(piece, part, CHART, NONE);
            Cells.put(partCounts, piece, part + 1);
            return part;
        }

        int fact(int piece, int part, int what) {
            return Cells.at(facts, (piece * MOST_PARTS + part) * FACTS + what);
        }

        void setFact(int piece, int part, int what, int number) {
            Cells.put(facts, (piece * MOST_PARTS + part) * FACTS + what, number);
        }
    }

    /** What changes can change, in one row of cells, so that a state is kept and brought back by copying. */
    static final class State {
        private final int[] cells;

        State() {
            cells = new int[STATE_CELLS];
        }

        void copyFrom(State other) {
            Cells.copyAll(other.cells, cells);
        }

        void empty() {
            for (int i = 0; i < cells.length; i++) {
                Cells.put(cells, i, 0);
            }
        }

        int cell(int index) {
            return Cells.at(cells, index);
        }

        void setCell(int index, int number) {
            Cells.put(cells, index, number);
        }

        int measured(int measure, int size) {
            return cell(VALUES + measure * MOST_SIZES + size);
        }

        void setMeasured(int measure, int size, int number) {
            setCell(VALUES + measure * MOST_SIZES + size, number);
        }

        int easeOf(int piece, int part) {
            return cell(EASES + piece * MOST_PARTS + part);
        }

        void setEaseOf(int piece, int part, int ease) {
            setCell(EASES + piece * MOST_PARTS + part, ease);
        }

        int lots() {
            return cell(LOT_COUNT);
        }

        int lotColor(int lot) {
            return cell(LOT_COLORS + lot);
        }

        int lotMeters(int lot) {
            return cell(LOT_METERS + lot);
        }

        void appendLot(int color, int meters) {
            int lot = lots();
            setCell(LOT_COLORS + lot, color);
            setCell(LOT_METERS + lot, meters);
            setCell(LOT_COUNT, lot + 1);
        }

        void dropLot(int dropped) {
            int last = lots() - 1;
            for (int lot = dropped; lot < last; lot++) {
                setCell(LOT_COLORS + lot, lotColor(lot + 1));
                setCell(LOT_METERS + lot, lotMeters(lot + 1));
            }
            setCell(LOT_COUNT, last);
        }
    }

    /** Places for states. */
    static final class Shelf {
        private final int[] store;

        Shelf(int places) {
            store = new int[places < 0 ? 0 : places * STATE_CELLS];
        }

        void keep(int place, State kept) {
            Cells.copy(kept.cells, 0, store, place * STATE_CELLS, STATE_CELLS);
        }

        void bring(int place, State target) {
            Cells.copy(store, place * STATE_CELLS, target.cells, 0, STATE_CELLS);
        }
    }

    /**
     * Reads a text into a pattern and a state of its own, so that a text with an error spoils nothing.
     * After the first error the reader stands at no token any more: the methods below need not ask for
     * an error after each token, as nothing matches, nothing is told and no other error is noted.
     */
    static final class Reader {
        private final Text text;
        private final Pattern pattern;
        private final State state;
        private final int[] tokenKinds;
        private final int[] tokenStarts;
        private final int[] tokenEnds;
        private final long[] tokenValues;
        private int token;
        private int position;
        private int kind;
        private int faultCode;
        private int faultPosition;

        Reader(Text source) {
            text = source;
            pattern = new Pattern();
            state = new State();
            tokenKinds = new int[MOST_BYTES + 1];
            tokenStarts = new int[MOST_BYTES + 1];
            tokenEnds = new int[MOST_BYTES + 1];
            tokenValues = new long[MOST_BYTES + 1];
            token = 0;
            position = 0;
            kind = NO_TOKEN;
            faultCode = 0;
            faultPosition = NONE;
        }

        /** Answers whether the text has no error. */
        boolean readText() {
            pattern.empty();
            state.empty();
            splitTokens();
            faultCode = 0;
            faultPosition = NONE;
            token = -1;
            pass();
            readGauge();
            readSizes();
            for (int i = 0; i <= MOST_MEASURES && kind == WORD_MEASURE; i++) {
                readMeasure();
            }
            for (int i = 0; i <= MOST_CHARTS && kind == WORD_CHART; i++) {
                readChart();
            }
            for (int i = 0; i <= MOST_PIECES && kind == WORD_PIECE; i++) {
                readPiece();
            }
            for (int i = 0; i <= MOST_LOTS && kind == WORD_LOT; i++) {
                readLot();
            }
            failIf(kind != TOKEN_END, WRONG_TOKEN);
            return faultCode == 0;
        }

        private void splitTokens() {
            int length = text.length;
            int tokens = 0;
            int start = 0;
            for (int step = 0; step < length && start < length; step++) {
                int end = runEnd(start);
                if (!text.isBlank(start)) {
                    setToken(tokens, start, end, kindOf(start, end));
                    tokens++;
                }
                start = end;
            }
            setToken(tokens, length, length, TOKEN_END);
        }

        private void setToken(int number, int start, int end, int newKind) {
            Cells.put(tokenStarts, number, start);
            Cells.put(tokenEnds, number, end);
            Cells.put(tokenKinds, number, newKind);
            if (newKind == TOKEN_NUMBER) {
                Cells.put(tokenValues, number, text.digitsValue(start, end));
            } else {
                Cells.put(tokenValues, number, text.packedName(start, end));
            }
        }

        private int runEnd(int start) {
            int length = text.length;
            int end = start + 1;
            if (text.isLetter(start)) {
                while (end < length && text.isLetter(end)) {
                    end++;
                }
            } else if (text.isDigit(start)) {
                while (end < length && text.isDigit(end)) {
                    end++;
                }
            }
            return end;
        }

        private int kindOf(int start, int end) {
            if (text.isLetter(start)) {
                return wordKind(start, end);
            }
            if (text.isDigit(start)) {
                return end - start <= NUMBER_DIGITS ? TOKEN_NUMBER : TOKEN_BAD;
            }
            return text.byteAt(start) == ';' ? TOKEN_SEMICOLON : TOKEN_BAD;
        }

        private int wordKind(int start, int end) {
            for (int word = WORD_GAUGE; word <= WORD_PER; word++) {
                if (text.holdsWord(start, end, wordOf(word))) {
                    return word;
                }
            }
            return WORD_FREE;
        }

        private static String wordOf(int word) {
            switch (word) {
                case WORD_GAUGE:
                    return "gauge";
                case WORD_YARN:
                    return "yarn";
                case WORD_SIZES:
                    return "sizes";
                case WORD_MEASURE:
                    return "measure";
                case WORD_PIECE:
                    return "piece";
                case WORD_CAST:
                    return "cast";
                case WORD_WORK:
                    return "work";
                case WORD_SHAPE:
                    return "shape";
                case WORD_END:
                    return "end";
                case WORD_LOT:
                    return "lot";
                case WORD_AND:
                    return "and";
                case WORD_PLUS:
                    return "plus";
                case WORD_MINUS:
                    return "minus";
                case WORD_BY:
                    return "by";
                case WORD_COLOR:
                    return "color";
                case WORD_CHART:
                    return "chart";
                case WORD_OVER:
                    return "over";
                default:
                    return "per";
            }
        }

        private void failIf(boolean wrong, int code) {
            if (wrong && faultCode == 0) {
                faultCode = code;
                faultPosition = position;
                kind = NO_TOKEN;
            }
        }

        private void pass() {
            if (faultCode == 0) {
                token++;
                position = Cells.at(tokenStarts, token);
                kind = Cells.at(tokenKinds, token);
            }
        }

        private void passToken(int expected) {
            failIf(kind != expected, WRONG_TOKEN);
            pass();
        }

        private int readNumber(int least, int greatest) {
            failIf(kind != TOKEN_NUMBER, WRONG_TOKEN);
            int number = (int) Cells.at(tokenValues, token);
            failIf(number < least || number > greatest, WRONG_NUMBER);
            pass();
            return number;
        }

        /** Does not pass the name, because other errors can have its position. */
        private long nameHere() {
            long name = Cells.at(tokenValues, token);
            failIf(kind < WORD_FREE || kind >= WORD_PLUS || name == 0, WRONG_TOKEN);
            return name;
        }

        private int readNewName(int named) {
            long name = nameHere();
            failIf(pattern.numberOf(named, name) != NONE, NAME_TAKEN);
            failIf(pattern.isFull(named), NO_ROOM);
            int number = faultCode == 0 ? pattern.addName(named, name) : NONE;
            pass();
            return number;
        }

        private int readKnownName(int named) {
            int number = pattern.numberOf(named, nameHere());
            failIf(number == NONE, NAME_UNKNOWN);
            pass();
            return number;
        }

        private void readGauge() {
            passToken(WORD_GAUGE);
            state.setCell(GAUGE_STITCHES, readNumber(LEAST_GAUGE, GREATEST_GAUGE));
            state.setCell(GAUGE_ROWS, readNumber(LEAST_GAUGE, GREATEST_GAUGE));
            passToken(WORD_YARN);
            state.setCell(GAUGE_YARN, readNumber(1, GREATEST_GAUGE));
            passToken(TOKEN_SEMICOLON);
        }

        private void readSizes() {
            passToken(WORD_SIZES);
            readNewName(SIZES);
            for (int i = 1; i <= MOST_SIZES && kind >= WORD_FREE; i++) {
                readNewName(SIZES);
            }
            passToken(TOKEN_SEMICOLON);
        }

        private void readMeasure() {
            failIf(pattern.isFull(MEASURES), NO_ROOM);
            passToken(WORD_MEASURE);
            int measure = readNewName(MEASURES);
            int sizes = pattern.total(SIZES);
            for (int size = 0; size < sizes; size++) {
                int number = readNumber(0, GREATEST_VALUE);
                if (faultCode == 0) {
                    state.setMeasured(measure, size, number);
                }
            }
            passToken(TOKEN_SEMICOLON);
        }

        private void readChart() {
            failIf(pattern.isFull(CHARTS), NO_ROOM);
            passToken(WORD_CHART);
            int chart = readNewName(CHARTS);
            readChartRow(chart, 0);
            for (int row = 1; row <= MOST_CHART_ROWS && kind >= WORD_FREE; row++) {
                readChartRow(chart, row);
            }
            failIf(kind == TOKEN_SEMICOLON && !pattern.isClosed(chart), WRONG_STITCHES);
            passToken(TOKEN_SEMICOLON);
        }

        private void readChartRow(int chart, int row) {
            failIf(!isChartRowHere(), WRONG_TOKEN);
            failIf(row >= MOST_CHART_ROWS, NO_ROOM);
            int takes = takenHere();
            // Each letter makes one stitch.
            int makes = Cells.at(tokenEnds, token) - position;
            failIf(row > 0 && takes != pattern.made(chart, row - 1), WRONG_STITCHES);
            if (faultCode == 0) {
                pattern.addChartRow(chart, takes, makes);
            }
            pass();
        }

        private boolean isChartRowHere() {
            int end = Cells.at(tokenEnds, token);
            if (kind < WORD_FREE || end - position > CHART_LETTERS) {
                return false;
            }
            for (int i = position; i < end; i++) {
                if (takenBy(text.byteAt(i)) == NONE) {
                    return false;
                }
            }
            return true;
        }

        private int takenHere() {
            int end = Cells.at(tokenEnds, token);
            int sum = 0;
            for (int i = position; i < end; i++) {
                sum += takenBy(text.byteAt(i));
            }
            return sum;
        }

        private static int takenBy(int letter) {
            switch (letter) {
                case 'k':
                case 'p':
                    return 1;
                case 'y':
                    return 0;
                case 't':
                    return 2;
                case 's':
                    return 3;
                default:
                    return NONE;
            }
        }

        private void readPiece() {
            failIf(pattern.isFull(PIECES), NO_ROOM);
            passToken(WORD_PIECE);
            int piece = readNewName(PIECES);
            passToken(TOKEN_SEMICOLON);
            readCast(piece);
            for (int part = 1; part <= MOST_PARTS && (kind == WORD_WORK || kind == WORD_SHAPE); part++) {
                failIf(part >= MOST_PARTS, NO_ROOM);
                if (kind == WORD_WORK) {
                    readWork(piece);
                } else {
                    readShape(piece);
                }
            }
            passToken(WORD_END);
            passToken(TOKEN_SEMICOLON);
        }

        private void readCast(int piece) {
            passToken(WORD_CAST);
            int part = startPart(piece, CAST);
            readWidth(piece, part);
            readColor(piece, part);
            passToken(TOKEN_SEMICOLON);
        }

        private void readWork(int piece) {
            passToken(WORD_WORK);
            int part = startPart(piece, WORK);
            tell(piece, part, LENGTH_MEASURE, readKnownName(MEASURES));
            readColor(piece, part);
            if (kind == WORD_CHART) {
                pass();
                tell(piece, part, CHART, readKnownName(CHARTS));
            }
            passToken(TOKEN_SEMICOLON);
        }

        private void readShape(int piece) {
            passToken(WORD_SHAPE);
            int part = startPart(piece, SHAPE);
            readWidth(piece, part);
            passToken(WORD_OVER);
            tell(piece, part, LENGTH_MEASURE, readKnownName(MEASURES));
            passToken(WORD_PER);
            tell(piece, part, PER, readNumber(1, GREATEST_PER));
            readColor(piece, part);
            passToken(TOKEN_SEMICOLON);
        }

        private void readWidth(int piece, int part) {
            tell(piece, part, WIDTH_MEASURE, readKnownName(MEASURES));
            int ease = 0;
            if (kind == WORD_PLUS) {
                pass();
                ease = readNumber(0, GREATEST_EASE);
            } else if (kind == WORD_MINUS) {
                pass();
                ease = -readNumber(0, GREATEST_EASE);
            }
            int multiple = 1;
            int remainder = 0;
            if (kind == WORD_BY) {
                pass();
                multiple = readNumber(1, GREATEST_MULTIPLE);
                if (kind == WORD_AND) {
                    pass();
                    remainder = readNumber(0, multiple - 1);
                }
            }
            if (faultCode == 0) {
                state.setEaseOf(piece, part, ease);
            }
            tell(piece, part, MULTIPLE, multiple);
            tell(piece, part, REMAINDER, remainder);
        }

        private void readColor(int piece, int part) {
            passToken(WORD_COLOR);
            tell(piece, part, COLOR, readNumber(0, COLORS - 1));
        }

        private int startPart(int piece, int partKind) {
            return faultCode == 0 ? pattern.addPart(piece, partKind) : NONE;
        }

        private void tell(int piece, int part, int what, int number) {
            if (faultCode == 0) {
                pattern.setFact(piece, part, what, number);
            }
        }

        private void readLot() {
            failIf(state.lots() >= MOST_LOTS, NO_ROOM);
            passToken(WORD_LOT);
            int color = readNumber(0, COLORS - 1);
            int meters = readNumber(1, GREATEST_METERS);
            if (faultCode == 0) {
                state.appendLot(color, meters);
            }
            passToken(TOKEN_SEMICOLON);
        }
    }

    /** The knitting of one piece in one size: its parts up to the one with which it fails. */
    static final class Plan {
        private final Pattern pattern;
        private final int[] firstRows;
        private final int[] rowCounts;
        private final int[] stitchesAhead;
        private final int[] stitchesAfter;
        private int piece;
        private int partTotal;
        private int rowTotal;
        private int failCode;

        Plan(Pattern source) {
            pattern = source;
            firstRows = new int[MOST_PARTS];
            rowCounts = new int[MOST_PARTS];
            stitchesAhead = new int[MOST_PARTS];
            stitchesAfter = new int[MOST_PARTS];
            piece = 0;
            partTotal = 0;
            rowTotal = 0;
            failCode = 0;
        }

        void knit(State state, int size, int newPiece) {
            piece = newPiece;
            partTotal = 0;
            rowTotal = 0;
            failCode = 0;
            int told = pattern.partTotal(piece);
            int stitches = 0;
            for (int part = 0; part < told && failCode == 0; part++) {
                int rows = countRows(state, size, part);
                int goal = countGoal(state, size, part, stitches);
                int reason = reasonAgainst(part, rows, stitches, goal);
                if (reason != 0) {
                    failCode = 10 * part + reason;
                } else {
                    addPart(rows, stitches, goal);
                    stitches = goal;
                }
            }
        }

        private int countRows(State state, int size, int part) {
            if (fact(part, KIND) == CAST) {
                return 1;
            }
            int length = state.measured(fact(part, LENGTH_MEASURE), size);
            int rows = (length * state.cell(GAUGE_ROWS) + 50) / 100;
            int chart = fact(part, CHART);
            return chart == NONE ? rows : nearest(rows, pattern.chartRowTotal(chart), 0);
        }

        /** A work leaves the stitches as they are, by a chart too: its last row makes what its first row takes. */
        private int countGoal(State state, int size, int part, int stitches) {
            if (fact(part, KIND) == WORK) {
                return stitches;
            }
            int millimeters = state.measured(fact(part, WIDTH_MEASURE), size) + state.easeOf(piece, part);
            int wanted = (Math.max(millimeters, 0) * state.cell(GAUGE_STITCHES) + 50) / 100;
            int multiple = fact(part, MULTIPLE);
            int goal = nearest(wanted, multiple, fact(part, REMAINDER));
            return goal < 1 ? goal + multiple : goal;
        }

        /** The number that is nearest to a wanted one of those with the remainder, of two the greater one. */
        private static int nearest(int wanted, int multiple, int remainder) {
            if (multiple < 1) {
                return wanted;
            }
            int lower = wanted - Math.floorMod(wanted - remainder, multiple);
            int upper = lower + multiple;
            return wanted - lower < upper - wanted ? lower : upper;
        }

        private int reasonAgainst(int part, int rows, int stitches, int goal) {
            int chart = fact(part, CHART);
            if (chart != NONE) {
                int width = pattern.taken(chart, 0);
                return width < 1 || stitches % width != 0 ? 3 : 0;
            }
            int per = fact(part, PER);
            if (fact(part, KIND) != SHAPE || per < 1) {
                return 0;
            }
            int difference = Math.abs(goal - stitches);
            if (difference % per != 0) {
                return 1;
            }
            return difference / per > rows ? 2 : 0;
        }

        private void addPart(int rows, int stitches, int goal) {
            Cells.put(firstRows, partTotal, rowTotal);
            Cells.put(rowCounts, partTotal, rows);
            Cells.put(stitchesAhead, partTotal, stitches);
            Cells.put(stitchesAfter, partTotal, goal);
            partTotal++;
            rowTotal += rows;
        }

        private int fact(int part, int what) {
            return pattern.fact(piece, part, what);
        }

        int rowsOf(int part) {
            return Cells.at(rowCounts, part);
        }

        private int rowBehind(int part) {
            return Cells.at(firstRows, part) + rowsOf(part);
        }

        private int ahead(int part) {
            return Cells.at(stitchesAhead, part);
        }

        private int after(int part) {
            return Cells.at(stitchesAfter, part);
        }

        int partOfRow(int row) {
            for (int part = 0; part < partTotal; part++) {
                if (row < rowBehind(part)) {
                    return part;
                }
            }
            return NONE;
        }

        int stitchesBehind(int row) {
            int part = partOfRow(row);
            int index = row - Cells.at(firstRows, part);
            int chart = fact(part, CHART);
            if (chart != NONE) {
                int rows = pattern.chartRowTotal(chart);
                return rows < 1 ? 0 : repeats(part) * pattern.made(chart, index % rows);
            }
            int shapings = shapingsOf(part);
            if (shapings == 0) {
                return after(part);
            }
            int shaped = fact(part, PER) * shapingsUpTo(index, shapings, rowsOf(part));
            return after(part) > ahead(part) ? ahead(part) + shaped : ahead(part) - shaped;
        }

        /** How many of the shaping rows floor(k * rows / shapings) are not behind a row of the part (from 0). */
        private static int shapingsUpTo(int index, int shapings, int rows) {
            return rows < 1 ? 0 : ((index + 2) * shapings - 1) / rows;
        }

        private int repeats(int part) {
            int width = pattern.taken(fact(part, CHART), 0);
            return width < 1 ? 0 : ahead(part) / width;
        }

        int shapingsOf(int part) {
            int per = fact(part, PER);
            if (fact(part, KIND) != SHAPE || per < 1) {
                return 0;
            }
            return Math.abs(after(part) - ahead(part)) / per;
        }

        int shapingRow(int part, int index) {
            int shapings = shapingsOf(part);
            if (shapings < 1) {
                return NONE;
            }
            return Cells.at(firstRows, part) + (index + 1) * rowsOf(part) / shapings - 1;
        }

        /** A shape lies between the stitches ahead of it, which an earlier row has, and those after it. */
        int greatestStitches() {
            int greatest = 0;
            for (int part = 0; part < partTotal; part++) {
                greatest = Math.max(greatest, after(part));
                if (fact(part, CHART) != NONE && rowsOf(part) > 0) {
                    greatest = Math.max(greatest, repeats(part) * pattern.mostMade(fact(part, CHART)));
                }
            }
            return greatest;
        }

        int leastStitches() {
            int least = after(0);
            for (int part = 1; part < partTotal; part++) {
                least = Math.min(least, after(part));
                if (fact(part, CHART) != NONE && rowsOf(part) > 0) {
                    least = Math.min(least, repeats(part) * pattern.leastMade(fact(part, CHART)));
                }
            }
            return least;
        }

        long stitchSum() {
            long sum = 0;
            for (int part = 0; part < partTotal; part++) {
                sum += sumOf(part);
            }
            return sum;
        }

        long stitchSumIn(int color) {
            long sum = 0;
            for (int part = 0; part < partTotal; part++) {
                if (fact(part, COLOR) == color) {
                    sum += sumOf(part);
                }
            }
            return sum;
        }

        private long sumOf(int part) {
            long rows = rowsOf(part);
            int chart = fact(part, CHART);
            if (chart != NONE) {
                int chartRows = pattern.chartRowTotal(chart);
                return chartRows < 1 ? 0 : rows / chartRows * repeats(part) * pattern.madeByAll(chart);
            }
            int shapings = shapingsOf(part);
            if (shapings == 0) {
                return rows * after(part);
            }
            long shaped = shapings * (rows + 1) - sumOfShapingRows(rows, shapings);
            long change = shaped * fact(part, PER);
            return after(part) > ahead(part) ? rows * ahead(part) + change : rows * ahead(part) - change;
        }

        /**
         * The sum of floor(k * rows / shapings) for k from 1 to shapings. The number k and its mirror image
         * shapings - k have floors that add up to rows - 1, or to rows if both divisions have no remainder.
         */
        private static long sumOfShapingRows(long rows, long shapings) {
            return (rows * shapings + rows - shapings + commonDivisor(rows, shapings)) / 2;
        }

        private static long commonDivisor(long one, long other) {
            long divisor = one;
            long rest = other;
            for (int step = 0; step < 64 && rest != 0; step++) {
                long next = divisor % rest;
                divisor = rest;
                rest = next;
            }
            return divisor;
        }

        /** Whether both fail alike and have the same stitches behind each row; for plans of the same piece. */
        boolean knitsLike(Plan other) {
            if (failCode != other.failCode || rowTotal != other.rowTotal) {
                return false;
            }
            int row = 0;
            for (int step = 0; step < rowTotal && row < rowTotal; step++) {
                if (stitchesBehind(row) != other.stitchesBehind(row)) {
                    return false;
                }
                row = nextToCompare(other, row);
            }
            return true;
        }

        /** Steps over rows that cannot differ, if those up to this one do not. */
        private int nextToCompare(Plan other, int row) {
            int mine = partOfRow(row);
            int its = other.partOfRow(row);
            if (isEven(mine) && other.isEven(its)) {
                return Math.min(rowBehind(mine), other.rowBehind(its));
            }
            return isPartOf(other, mine, its) ? rowBehind(mine) : row + 1;
        }

        private boolean isEven(int part) {
            return fact(part, CHART) == NONE && shapingsOf(part) == 0;
        }

        private boolean isPartOf(Plan other, int mine, int its) {
            return mine == its && rowsOf(mine) == other.rowsOf(its) && rowBehind(mine) == other.rowBehind(its)
                && ahead(mine) == other.ahead(its) && after(mine) == other.after(its);
        }
    }

    /** Deals the lots of a color to the pieces of a size. */
    static final class Dealer {
        private final Pattern pattern;
        private final Plan plan;
        private final long[] needs;
        private final long[] setNeeds;
        private final int[] setPlaces;
        private final int[] costs;

        Dealer(Pattern source, Plan knitting) {
            pattern = source;
            plan = knitting;
            needs = new long[MOST_PIECES * COLORS];
            setNeeds = new long[PIECE_SETS];
            setPlaces = new int[PIECE_SETS];
            costs = new int[PIECE_SETS];
        }

        /** Gathers the needs in a size; answers false if some piece fails in it. */
        boolean gather(State state, int size) {
            int pieces = pattern.total(PIECES);
            for (int piece = 0; piece < pieces; piece++) {
                plan.knit(state, size, piece);
                if (plan.failCode != 0) {
                    return false;
                }
                for (int color = 0; color < COLORS; color++) {
                    Cells.put(needs, piece * COLORS + color, plan.stitchSumIn(color) * state.cell(GAUGE_YARN));
                }
            }
            return true;
        }

        long needOf(int piece, int color) {
            return Cells.at(needs, piece * COLORS + color);
        }

        int lotIn(int dealing, int piece) {
            return dealing >> placeShift(piece) & LOT_MASK;
        }

        private static int placeShift(int piece) {
            return LOT_BITS * (MOST_PIECES - 1 - piece);
        }

        /** The number of lots that all colors take together; NONE if those of some color cannot be dealt. */
        int lotsOfAll(State state) {
            int used = 0;
            for (int color = 0; color < COLORS; color++) {
                int dealing = bestDealing(state, color);
                if (dealing == NO_DEALING) {
                    return NONE;
                }
                used += dealing >> COUNT_SHIFT;
            }
            return used;
        }

        /**
         * The cost of the dealing that counts, or NO_DEALING. Lot after lot takes a set of pieces, and costs
         * add up: one lot more in the high bits, and the lot's number at the place of each piece of the set,
         * the first piece highest. So the least cost has the fewest lots, and of these the first lots.
         */
        int bestDealing(State state, int color) {
            int pieces = pattern.total(PIECES);
            int needing = addUpSets(pieces, color);
            for (int set = 1; set <= needing; set++) {
                Cells.put(costs, set, NO_DEALING);
            }
            Cells.put(costs, 0, 0);
            int lots = state.lots();
            for (int lot = 0; lot < lots; lot++) {
                if (state.lotColor(lot) == color) {
                    long room = (long) MILLIMETERS_OF_METER * state.lotMeters(lot);
                    offerLot(lot, room, needing);
                }
            }
            return Cells.at(costs, needing);
        }

        /** Adds up needs and places of all sets; answers the set of the pieces that need the color. */
        private int addUpSets(int pieces, int color) {
            Cells.put(setNeeds, 0, 0L);
            Cells.put(setPlaces, 0, 0);
            int needing = 0;
            for (int piece = 0; piece < pieces; piece++) {
                int alone = 1 << piece;
                long needed = needOf(piece, color);
                for (int others = 0; others < alone; others++) {
                    Cells.put(setNeeds, others | alone, Cells.at(setNeeds, others) + needed);
                    Cells.put(setPlaces, others | alone, Cells.at(setPlaces, others) + (1 << placeShift(piece)));
                }
                if (needed > 0) {
                    needing |= alone;
                }
            }
            return needing;
        }

        /** From the greatest set down, so that the costs of the smaller ones are still those without this lot. */
        private void offerLot(int lot, long room, int needing) {
            for (int set = needing; set > 0; set--) {
                if ((set & ~needing) == 0) {
                    Cells.put(costs, set, costWith(lot, room, set));
                }
            }
        }

        private int costWith(int lot, long room, int set) {
            int least = Cells.at(costs, set);
            for (int taken = 1; taken <= set; taken++) {
                if ((taken & ~set) != 0 || Cells.at(setNeeds, taken) > room) {
                    continue;
                }
                int rest = Cells.at(costs, set ^ taken);
                if (rest != NO_DEALING) {
                    int cost = rest + (1 << COUNT_SHIFT) + lot * Cells.at(setPlaces, taken);
                    least = Math.min(least, cost);
                }
            }
            return least;
        }
    }
}
