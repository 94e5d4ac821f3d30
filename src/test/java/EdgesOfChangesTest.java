import java.util.ArrayList;
import java.util.List;

/** The sentences of the chapters CHANGES and EXCEPTIONS that name an edge, and those of promises 30 to 39, one by one. */
public final class EdgesOfChangesTest {
    /** With this gauge 10 millimeters are a stitch, and a row. The second piece fails in size m, the third one in size s. */
    private static final String TEXT = "gauge 10 10 yarn 9;sizes s m;measure a 100 120;measure b 60 90;measure z 0 0;chart x kyt kkk;"
        + "piece p;cast a color 0;work b color 1;end;piece q;cast b color 2;shape a plus 0 over b per 2 color 1;end;piece r;cast a color 0;work z color 0 chart x;end;lot 0 9;lot 1 20;lot 2 5;";
    private static final String SIX = "gauge 10 10 yarn 1;sizes a b c d e f;measure x 1 2 3 4 5 6;measure y 9 9 9 9 9 9;";
    private static final int[] NOWHERE = {-1, Integer.MIN_VALUE, Integer.MAX_VALUE, 1 << 30, -(1 << 30), 1 << 28, 1 << 29};

    private EdgesOfChangesTest() {
    }

    public static void main(String[] args) {
        changesOfNothing();
        allSixAreChanges();
        noOtherCallIsAChange();
        atMost8Changes();
        undosInTurn();
        twoSlots();
        stateOfASlot();
        throwingChangesNothing();
        firstNamed();
        setGauge();
        gaugeOutside();
        failingPieces();
        setValue();
        valueOutside();
        placeOutside();
        grade();
        lastValue();
        gradeOutside();
        gradeAround();
        gradeOfNoMeasure();
        setEase();
        easeOutside();
        partOutside();
        partWithoutWidth();
        addLot();
        lotOutside();
        tenLots();
        removeLot();
        removeOutside();
        undo();
        slotsStay();
        nothingToUndo();
        save();
        saveOutside();
        restore();
        staysSaved();
        nothingToUndoThen();
        restoreOutside();
        restoreOfNothing();
        equalStates();
        otherRows();
        otherStitches();
        oneOtherRow();
        otherRowsOfAPart();
        otherFailures();
        pairsOfSizesAndPieces();
        yarnIsNoDifference();
        differencesOutside();
        differencesOfNothing();
        Check.end("EdgesOfChangesTest");
    }

    /** Two changes, a state in slot 1 alone, an error, and a name in the buffer. */
    private static KnitGrader text() {
        KnitGrader g = Check.loaded(TEXT);
        g.setValue(1, 0, 80);
        g.save(1);
        g.addLot(3, 4);
        Check.write(g, "gauge 20 30 yarn 10;sizes s 7");
        Check.argument("an error", g::load);
        Check.write(g, "b");
        return g;
    }

    private static void refused(String what, String exception, Check.CallOf call) {
        Check.refused(what, exception, EdgesOfChangesTest::text, call);
    }

    private static void changesOfNothing() {
        Check.sentence("a call that does not throw is a change also if it makes nothing different");
        KnitGrader g = Check.loaded(TEXT);
        g.save(0);
        g.setGauge(10, 10, 9);
        Check.due("the same gauge", () -> g.count(8), 1);
        g.setValue(0, 1, 120);
        Check.due("the same value", () -> g.count(8), 2);
        g.grade(0, 100, 20);
        Check.due("the same values", () -> g.count(8), 3);
        g.setEase(1, 1, 0);
        Check.due("the same ease", () -> g.count(8), 4);
        Check.due("no difference", () -> g.differences(0), 0);
        for (int left = 3; left >= 0; left--) {
            Check.due("undo of nothing different", g::undo, left);
        }
        Check.state("all are undone", g::undo);
        KnitGrader other = Check.loaded(TEXT);
        other.save(0);
        Check.same("nothing is different", Picture.of(g), Picture.of(other));
    }

    private static void change(KnitGrader g, int number) {
        switch (number % 6) {
            case 0:
                g.setGauge(11 + number, 12, 13);
                break;
            case 1:
                g.setValue(1, 1, 100 + number);
                break;
            case 2:
                g.grade(2, number, 3);
                break;
            case 3:
                g.setEase(1, 1, number);
                break;
            case 4:
                g.addLot(3, 1 + number);
                break;
            default:
                g.removeLot(1);
                break;
        }
    }

    private static KnitGrader changed(int changes) {
        KnitGrader g = Check.loaded(TEXT);
        for (int i = 0; i < changes; i++) {
            change(g, i);
        }
        return g;
    }

    /** What can be seen of a state, without what can be undone. */
    private static String seen(KnitGrader g) {
        StringBuilder seen = new StringBuilder();
        for (int what = 0; what < 8; what++) {
            seen.append(g.count(what)).append(' ');
        }
        for (int i = 0; i < 6; i++) {
            seen.append(g.value(i / 2, i % 2)).append(' ').append(g.rows(i % 2, i / 2)).append(' ').append(g.failure(i % 2, i / 2)).append(' ');
        }
        for (int lot = 0; lot < g.count(4); lot++) {
            seen.append(g.lot(lot, 0)).append(':').append(g.lot(lot, 1)).append(' ');
        }
        return seen.append(g.part(0, 0, 3)).append(' ').append(g.part(1, 1, 3)).append(' ').append(g.need(1, 0, 0)).toString();
    }

    private static void allSixAreChanges() {
        Check.sentence("setGauge(), setValue(), grade(), setEase(), addLot() and removeLot() are changes");
        KnitGrader g = changed(6);
        for (int left = 5; left >= 0; left--) {
            Check.due("undo to " + left, g::undo, left);
            Check.same("the state behind " + left + " changes", seen(g), seen(changed(left)));
        }
    }

    private static void noOtherCallIsAChange() {
        Check.sentence("are changes (no other call is one)");
        KnitGrader g = changed(3);
        g.save(0);
        g.differences(0);
        g.errorCode();
        g.errorPosition();
        g.possible();
        g.fits(0, 5);
        g.isGraded(0);
        g.need(0, 0, 0);
        Check.told(() -> g.dealt(1, 0, 0));
        Check.told(() -> g.lotsUsed(1));
        Check.told(() -> g.shaping(1, 1, 1, 0));
        Check.write(g, "a");
        g.find(1);
        Check.told(g::load);
        Check.due("three changes", () -> g.count(8), 3);
        g.undo();
        Check.due("an undo is none", () -> g.count(8), 2);
    }

    private static void atMost8Changes() {
        Check.sentence("At most 8 changes can be undone.");
        for (int changes = 0; changes <= 20; changes++) {
            KnitGrader g = changed(changes);
            int most = Math.min(8, changes);
            Check.due("changes behind " + changes, () -> g.count(8), most);
            for (int left = most - 1; left >= 0; left--) {
                Check.due("undo to " + left, g::undo, left);
                Check.same("the state " + left + " before " + changes, seen(g), seen(changed(changes - most + left)));
            }
            Check.state("no further undo behind " + changes, g::undo);
            Check.same("which changes nothing", seen(g), seen(changed(changes - most)));
        }
    }

    /** Ups and downs of the number of changes, around the limit too, beside a plain list. */
    private static void undosInTurn() {
        Check.sentence("Undoes the latest change that has not been undone. Returns the number of changes that can still be undone.");
        KnitGrader g = new KnitGrader();
        List<Integer> values = new ArrayList<>();
        int value = 400;
        int[] steps = {3, -2, 4, -5, 8, -8, 9, -3, 3, -4, 6, -8, 20, -7, 2, -1, 7, -8, 1, -1, 12, -8};
        int next = 1000;
        for (int step : steps) {
            for (int i = 0; i < Math.abs(step); i++) {
                if (step > 0) {
                    values.add(value);
                    value = next++;
                    int set = value;
                    Check.due("setValue", () -> g.setValue(0, 0, set), values.get(values.size() - 1));
                    if (values.size() > 8) {
                        values.remove(0);
                    }
                } else {
                    value = values.remove(values.size() - 1);
                    Check.due("undo", g::undo, values.size());
                }
                Check.due("value", () -> g.value(0, 0), value);
                Check.due("changes", () -> g.count(8), values.size());
            }
        }
    }

    private static void twoSlots() {
        Check.sentence("There are two slots for saved states");
        KnitGrader g = Check.loaded(TEXT);
        g.setValue(0, 0, 11);
        g.save(0);
        g.setValue(0, 0, 12);
        g.save(1);
        g.setValue(0, 0, 13);
        int[] slots = {0, 1, 1, 0};
        for (int slot : slots) {
            g.restore(slot);
            Check.due("slot " + slot, () -> g.value(0, 0), 11 + slot);
        }
        Check.range("no slot 2", Check.done(() -> g.save(2)));
        Check.range("no slot -1", Check.done(() -> g.save(-1)));
    }

    private static void stateOfASlot() {
        Check.sentence("a state is all that the text tells, as it is now");
        for (int changes = 0; changes <= 12; changes++) {
            KnitGrader g = changed(changes);
            g.save(changes % 2);
            String state = seen(g);
            for (int i = changes; i < changes + 6; i++) {
                change(g, i);
            }
            g.restore(changes % 2);
            Check.same("the state behind " + changes + " changes", seen(g), state);
        }
    }

    private static void throwingChangesNothing() {
        Check.sentence("A call that throws an exception changes nothing, unless its comment says otherwise.");
        refused("setGauge", Check.ARGUMENT, g -> g.setGauge(20, 30, 100));
        refused("setValue", Check.ARGUMENT, g -> g.setValue(0, 0, 3001));
        refused("grade", Check.ARGUMENT, g -> g.grade(0, 3000, 1));
        refused("setEase", Check.STATE, g -> g.setEase(0, 1, 5));
        refused("addLot", Check.ARGUMENT, g -> g.addLot(0, 0));
        refused("removeLot", Check.RANGE, g -> g.removeLot(4));
        refused("restore", Check.MISSING, g -> {
            g.restore(0);
            return 0;
        });
        refused("differences", Check.MISSING, g -> g.differences(0));
        refused("save", Check.RANGE, g -> {
            g.save(2);
            return 0;
        });
        KnitGrader g = changed(8);
        for (int i = 0; i < 9; i++) {
            Check.argument("a refused change", () -> g.setGauge(4, 4, 0));
            Check.argument("another one", () -> g.addLot(4, 1));
            Check.range("a third one", () -> g.setValue(3, 0, 1));
        }
        for (int left = 7; left >= 0; left--) {
            Check.due("undo to " + left, g::undo, left);
        }
        Check.same("the state of the text", seen(g), seen(changed(0)));
    }

    /** Two exceptions apply to each of these calls, to the call of dealt() for no piece all four. */
    private static void firstNamed() {
        Check.sentence("If several exceptions apply to a call, the one that is named first in its throws clause is thrown.");
        refused("find: what and the name", Check.ARGUMENT, g -> g.find(4));
        refused("fits: measure and millimeters", Check.RANGE, g -> g.fits(3, 3001));
        refused("chart: chart and what", Check.RANGE, g -> g.chart(1, 3));
        refused("part: piece and what", Check.RANGE, g -> g.part(3, 0, 9));
        refused("part: part and what", Check.RANGE, g -> g.part(0, 2, 9));
        refused("partRows: part and failure", Check.RANGE, g -> g.partRows(0, 2, 2));
        refused("shaping: part and failure", Check.RANGE, g -> g.shaping(0, 2, 2, 0));
        refused("shaping: part and index", Check.RANGE, g -> g.shaping(1, 0, 2, -1));
        refused("shaping: failure and index", Check.STATE, g -> g.shaping(0, 2, 1, -1));
        refused("need: piece and color", Check.RANGE, g -> g.need(0, 3, 4));
        refused("need: size and color", Check.RANGE, g -> g.need(2, 0, 4));
        refused("lot: lot and what", Check.RANGE, g -> g.lot(4, 2));
        Check.refused("dealt: size and color", Check.RANGE, EdgesOfChangesTest::withoutLots, g -> g.dealt(2, 0, 4));
        Check.refused("dealt: piece, color, failure and lots", Check.RANGE, EdgesOfChangesTest::withoutLots, g -> g.dealt(0, 3, 4));
        Check.refused("dealt: piece, failure and lots", Check.RANGE, EdgesOfChangesTest::withoutLots, g -> g.dealt(0, 3, 0));
        Check.refused("dealt: color, failure and lots", Check.ARGUMENT, EdgesOfChangesTest::withoutLots, g -> g.dealt(0, 0, 4));
        Check.refused("dealt: failure and lots", Check.STATE, EdgesOfChangesTest::withoutLots, g -> g.dealt(0, 0, 0));
        Check.refused("lotsUsed: failure and lots", Check.STATE, EdgesOfChangesTest::withoutLots, g -> g.lotsUsed(0));
        refused("setValue: measure and value", Check.RANGE, g -> g.setValue(3, 0, 3001));
        refused("setValue: size and value", Check.RANGE, g -> g.setValue(0, 2, -1));
        refused("grade: measure and values", Check.RANGE, g -> g.grade(-1, 3001, 1));
        refused("setEase: part and ease", Check.RANGE, g -> g.setEase(0, 2, 1000));
        refused("setEase: ease and no width", Check.ARGUMENT, g -> g.setEase(0, 1, 1000));
        Check.refused("addLot: color and 10 lots", Check.ARGUMENT, EdgesOfChangesTest::withTenLots, g -> g.addLot(4, 5));
        Check.refused("addLot: meters and 10 lots", Check.ARGUMENT, EdgesOfChangesTest::withTenLots, g -> g.addLot(0, 10000));
    }

    private static KnitGrader withoutLots() {
        KnitGrader g = text();
        for (int i = 0; i < 4; i++) {
            g.removeLot(0);
        }
        return g;
    }

    private static void setGauge() {
        Check.sentence("Changes the gauge. stitches: 5 to 99, rows: 5 to 99, yarn: 1 to 99");
        int[][] gauges = {{5, 5, 1}, {99, 99, 99}, {5, 99, 50}, {99, 5, 2}, {6, 98, 98}};
        KnitGrader g = new KnitGrader();
        for (int[] one : gauges) {
            Check.due("setGauge", () -> g.setGauge(one[0], one[1], one[2]), 0);
            for (int i = 0; i < 3; i++) {
                int what = i;
                Check.due("count(" + (5 + i) + ")", () -> g.count(5 + what), one[i]);
            }
            int stitches = (400 * one[0] + 50) / 100;
            int rows = 1 + (100 * one[1] + 50) / 100;
            Check.due("stitches", () -> g.stitches(0, 0, 0), stitches);
            Check.due("rows", () -> g.rows(0, 0), rows);
            Check.due("need", () -> g.need(0, 0, 0), (long) stitches * rows * one[2]);
        }
    }

    private static void gaugeOutside() {
        Check.sentence("setGauge: Throws IllegalArgumentException if an argument is out of range");
        int[][] wrong = {{4, 30, 10}, {100, 30, 10}, {20, 4, 10}, {20, 100, 10}, {20, 30, 0}, {20, 30, 100}, {0, 30, 10}, {20, 0, 10}, {-20, 30, 10}, {20, -30, 10}, {20, 30, -10},
            {Integer.MAX_VALUE, 30, 10}, {Integer.MIN_VALUE, 30, 10}, {20, Integer.MAX_VALUE, 10}, {20, Integer.MIN_VALUE, 10}, {20, 30, Integer.MAX_VALUE}, {20, 30, Integer.MIN_VALUE}, {4, 4, 0}};
        for (int[] one : wrong) {
            refused("setGauge(" + one[0] + ", " + one[1] + ", " + one[2] + ")", Check.ARGUMENT, g -> g.setGauge(one[0], one[1], one[2]));
        }
    }

    private static void failingPieces() {
        Check.sentence("Returns the number of pieces that fail, in all sizes together.");
        Check.due("a new object", () -> new KnitGrader().setGauge(20, 30, 10), 0);
        Check.due("no pieces", () -> Check.loaded(SIX).setGauge(20, 30, 10), 0);
        KnitGrader g = Check.loaded(TEXT);
        Check.due("the third piece in size s, the second one in size m", () -> g.setGauge(10, 10, 9), 2);
        // 11 and 13 stitches, and 7 to 11 and 10 to 13 by 2.
        Check.due("the third piece in both sizes, the second one in size m", () -> g.setGauge(11, 10, 9), 3);
        StringBuilder t = new StringBuilder("gauge 10 10 yarn 1;sizes a b c d e f;measure x 100 100 100 100 100 100;measure y 110 110 110 110 110 110;");
        for (int i = 0; i < 6; i++) {
            t.append("piece p").append((char) ('a' + i)).append(";cast x color 0;shape y over x per 2 color 0;end;");
        }
        KnitGrader all = Check.loaded(t.toString());
        Check.due("six pieces in six sizes", () -> all.setGauge(10, 10, 1), 36);
        Check.due("none of them", () -> all.setGauge(20, 10, 1), 0);
        all.setEase(5, 1, 5);
        Check.due("the last one in six sizes", () -> all.setGauge(20, 10, 1), 6);
    }

    private static void setValue() {
        Check.sentence("Changes a value of the table. value: 0 to 3000. Returns the previous value.");
        KnitGrader g = Check.loaded(SIX);
        Check.due("to 0", () -> g.setValue(0, 5, 0), 6);
        Check.due("to 3000", () -> g.setValue(0, 5, 3000), 0);
        Check.due("to 7", () -> g.setValue(0, 5, 7), 3000);
        Check.due("of size 0", () -> g.setValue(1, 0, 8), 9);
        int[] due = {1, 2, 3, 4, 5, 7, 8, 9, 9, 9, 9, 9};
        for (int i = 0; i < 12; i++) {
            int at = i;
            Check.due("value(" + i / 6 + ", " + i % 6 + ")", () -> g.value(at / 6, at % 6), due[i]);
        }
    }

    private static void valueOutside() {
        Check.sentence("setValue: Throws IllegalArgumentException if value is out of range");
        for (int value : new int[] {-1, 3001, Integer.MIN_VALUE, Integer.MAX_VALUE}) {
            refused("setValue to " + value, Check.ARGUMENT, g -> g.setValue(1, 1, value));
        }
    }

    private static void placeOutside() {
        Check.sentence("setValue: Throws IndexOutOfBoundsException if there is no such measure or size");
        int[][] places = {{3, 0}, {0, 2}, {-1, 1}, {1, -1}, {0, 6}, {8, 0}};
        for (int[] one : places) {
            for (int value : new int[] {5, -1, 3001}) {
                refused("setValue(" + one[0] + ", " + one[1] + ", " + value + ")", Check.RANGE, g -> g.setValue(one[0], one[1], value));
            }
        }
        for (int number : NOWHERE) {
            refused("setValue of measure " + number, Check.RANGE, g -> g.setValue(number, 0, 5));
            refused("setValue of size " + number, Check.RANGE, g -> g.setValue(0, number, 5));
        }
    }

    private static void graded(KnitGrader g, int first, int step, int last) {
        Check.due("grade(0, " + first + ", " + step + ")", () -> g.grade(0, first, step), last);
        int sizes = g.count(0);
        for (int k = 0; k < sizes; k++) {
            int size = k;
            Check.due("value of size " + k, () -> g.value(0, size), first + k * step);
        }
    }

    private static void grade() {
        Check.sentence("Grades a measure evenly: size k gets the value first + k * step.");
        KnitGrader g = Check.loaded(SIX);
        graded(g, 100, 50, 350);
        graded(g, 0, 600, 3000);
        graded(g, 3000, -600, 0);
        graded(g, 7, 0, 7);
        graded(g, 2995, 1, 3000);
        graded(g, 5, -1, 0);
        graded(g, 3000, 0, 3000);
        graded(g, 0, 0, 0);
        for (int size = 0; size < 6; size++) {
            int one = size;
            Check.due("another measure", () -> g.value(1, one), 9);
        }
        Check.due("eight changes", () -> g.count(8), 8);
    }

    private static void lastValue() {
        Check.sentence("Returns the value of the last size.");
        Check.due("of two sizes", () -> Check.loaded(TEXT).grade(1, 10, 7), 17);
        KnitGrader one = Check.loaded("gauge 10 10 yarn 1;sizes a;measure x 1;");
        for (int step : new int[] {0, 1, -1, 3000, -3001, Integer.MAX_VALUE, Integer.MIN_VALUE}) {
            graded(one, 44, step, 44);
            Check.due("with the first value 0", () -> one.grade(0, 0, step), 0);
            Check.due("with the first value 3000", () -> one.grade(0, 3000, step), 3000);
        }
    }

    private static void gradeOutside() {
        Check.sentence("grade: Throws IllegalArgumentException if a value would not be from 0 to 3000");
        int[][] wrong = {{2995, 6}, {2996, 1}, {3000, 1}, {3001, 0}, {3001, -1}, {0, -1}, {4, -1}, {9, -2}, {-1, 0}, {-1, 1}, {-5, 600}, {0, 601}, {3000, -601}, {3001, -600}, {3005, -1}};
        for (int[] one : wrong) {
            Check.refused("grade(0, " + one[0] + ", " + one[1] + ")", Check.ARGUMENT, () -> Check.loaded(SIX), g -> g.grade(0, one[0], one[1]));
        }
        refused("of two sizes: 3001", Check.ARGUMENT, g -> g.grade(0, 2999, 2));
        refused("of two sizes: -1", Check.ARGUMENT, g -> g.grade(0, 1, -2));
        for (int first : new int[] {-1, 3001, Integer.MIN_VALUE, Integer.MAX_VALUE}) {
            Check.refused("of one size: " + first, Check.ARGUMENT, () -> Check.loaded("gauge 10 10 yarn 1;sizes a;measure x 1;"), g -> g.grade(0, first, 0));
        }
    }

    /** Steps that would come back into the range if a product or a sum lost its upper bits. */
    private static void gradeAround() {
        Check.sentence("step: any number (none comes back into the range by a wrap-around)");
        int[][] steps = {{2, Integer.MAX_VALUE}, {2, Integer.MIN_VALUE}, {3, Integer.MIN_VALUE}, {3, 1 << 30}, {4, 1431655765}, {4, 1431655766}, {4, -1431655765}, {5, 1 << 30}, {5, -(1 << 30)},
            {5, Integer.MIN_VALUE}, {6, 858993459}, {6, 858993460}, {6, -858993459}, {6, 1717986918}, {6, 1717986919}, {6, -1717986918}, {6, Integer.MIN_VALUE}, {6, Integer.MAX_VALUE}};
        for (int[] one : steps) {
            StringBuilder t = new StringBuilder("gauge 10 10 yarn 1;sizes");
            StringBuilder values = new StringBuilder("measure x");
            for (int i = 0; i < one[0]; i++) {
                t.append(' ').append((char) ('a' + i));
                values.append(" 5");
            }
            for (int first : new int[] {0, 1, 2, 1500, 3000}) {
                Check.refused(one[0] + " sizes, grade(0, " + first + ", " + one[1] + ")", Check.ARGUMENT, () -> Check.loaded(t + ";" + values + ";"), g -> g.grade(0, first, one[1]));
            }
        }
        for (int first : new int[] {Integer.MIN_VALUE, Integer.MAX_VALUE}) {
            for (int step : new int[] {Integer.MIN_VALUE, Integer.MAX_VALUE, 1, -1}) {
                Check.refused("grade(0, " + first + ", " + step + ")", Check.ARGUMENT, () -> Check.loaded(SIX), g -> g.grade(0, first, step));
            }
        }
    }

    private static void gradeOfNoMeasure() {
        Check.sentence("grade: Throws IndexOutOfBoundsException if there is no such measure");
        refused("grade(3, 5, 0)", Check.RANGE, g -> g.grade(3, 5, 0));
        refused("also with values out of range", Check.RANGE, g -> g.grade(3, -1, 0));
        for (int number : NOWHERE) {
            refused("grade(" + number + ", 5, 0)", Check.RANGE, g -> g.grade(number, 5, 0));
            refused("grade(" + number + ", 3001, 0)", Check.RANGE, g -> g.grade(number, 3001, 0));
        }
    }

    private static void setEase() {
        Check.sentence("Changes the ease of a part. ease: -999 to 999. Returns the previous ease.");
        KnitGrader g = Check.loaded(TEXT);
        int[] eases = {999, -999, 0, 998, -998};
        int previous = 0;
        for (int ease : eases) {
            int before = previous;
            Check.due("a shape to " + ease, () -> g.setEase(1, 1, ease), before);
            Check.due("told of it", () -> g.part(1, 1, 3), ease);
            Check.due("not of the cast", () -> g.part(1, 0, 3), 0);
            previous = ease;
        }
        Check.due("a cast", () -> g.setEase(0, 0, -20), 0);
        Check.due("stitches of the cast", () -> g.stitches(0, 0, 0), 8);
        KnitGrader text = Check.loaded("gauge 10 10 yarn 1;sizes s;measure a 100;piece p;cast a minus 999 by 4 and 3 color 0;" + "work a color 0;".repeat(8) + "shape a plus 999 over a per 1 color 0;end;");
        Check.due("minus in the text", () -> text.setEase(0, 0, 5), -999);
        Check.due("plus in the text, in the tenth part", () -> text.setEase(0, 9, 6), 999);
        Check.due("the tenth part now", () -> text.part(0, 9, 3), 6);
        Check.due("the multiple stays", () -> text.part(0, 0, 4), 4);
        Check.due("the remainder stays", () -> text.part(0, 0, 5), 3);
    }

    private static void easeOutside() {
        Check.sentence("setEase: Throws IllegalArgumentException if ease is out of range");
        for (int ease : new int[] {-1000, 1000, Integer.MIN_VALUE, Integer.MAX_VALUE}) {
            refused("setEase to " + ease, Check.ARGUMENT, g -> g.setEase(0, 0, ease));
            refused("also of a work", Check.ARGUMENT, g -> g.setEase(0, 1, ease));
        }
    }

    private static void partOutside() {
        Check.sentence("setEase: Throws IndexOutOfBoundsException if there is no such piece or part");
        int[][] places = {{3, 0}, {0, 2}, {-1, 0}, {0, -1}, {1, -1}, {0, 10}, {6, 0}};
        for (int[] one : places) {
            for (int ease : new int[] {5, 1000, -1000}) {
                refused("setEase(" + one[0] + ", " + one[1] + ", " + ease + ")", Check.RANGE, g -> g.setEase(one[0], one[1], ease));
            }
        }
        for (int number : NOWHERE) {
            refused("setEase of piece " + number, Check.RANGE, g -> g.setEase(number, 0, 5));
            refused("setEase of part " + number, Check.RANGE, g -> g.setEase(0, number, 5));
        }
    }

    private static void partWithoutWidth() {
        Check.sentence("Throws IllegalStateException if the part has no width");
        for (int ease : new int[] {0, 999, -999}) {
            refused("a work, to " + ease, Check.STATE, g -> g.setEase(0, 1, ease));
            refused("a work by a chart, to " + ease, Check.STATE, g -> g.setEase(2, 1, ease));
        }
        Check.due("a shape has one", () -> text().setEase(1, 1, 5), 0);
        Check.due("a cast has one", () -> text().setEase(2, 0, 5), 0);
    }

    private static void addLot() {
        Check.sentence("Adds a lot, behind all others. color: 0 to 3, meters: 1 to 9999. Returns the number of the lot.");
        KnitGrader g = Check.loaded("gauge 10 10 yarn 1;sizes s;");
        int[][] lots = {{0, 1}, {3, 9999}, {1, 2}, {2, 9998}, {0, 5}, {0, 6}, {0, 7}, {0, 8}, {0, 9}, {3, 10}};
        for (int i = 0; i < 10; i++) {
            int[] one = lots[i];
            Check.due("number of lot " + i, () -> g.addLot(one[0], one[1]), i);
        }
        for (int i = 0; i < 20; i++) {
            int at = i;
            Check.due("lot(" + i / 2 + ", " + i % 2 + ")", () -> g.lot(at / 2, at % 2), lots[i / 2][i % 2]);
        }
    }

    private static void lotOutside() {
        Check.sentence("addLot: Throws IllegalArgumentException if color or meters is out of range");
        int[][] wrong = {{-1, 5}, {4, 5}, {0, 0}, {0, 10000}, {0, -1}, {3, -5}, {Integer.MIN_VALUE, 5}, {Integer.MAX_VALUE, 5}, {0, Integer.MIN_VALUE}, {0, Integer.MAX_VALUE}, {4, 0}};
        for (int[] one : wrong) {
            refused("addLot(" + one[0] + ", " + one[1] + ")", Check.ARGUMENT, g -> g.addLot(one[0], one[1]));
            Check.refused("also with 10 lots", Check.ARGUMENT, EdgesOfChangesTest::withTenLots, g -> g.addLot(one[0], one[1]));
        }
    }

    private static KnitGrader withTenLots() {
        KnitGrader g = Check.loaded("gauge 10 10 yarn 1;sizes s;measure a 100;piece p;cast a color 0;end;" + "lot 0 1;".repeat(9));
        g.addLot(1, 2);
        return g;
    }

    private static void tenLots() {
        Check.sentence("addLot: Throws IllegalStateException if there are 10 lots");
        Check.refused("an eleventh lot", Check.STATE, EdgesOfChangesTest::withTenLots, g -> g.addLot(0, 1));
        Check.refused("the greatest one", Check.STATE, EdgesOfChangesTest::withTenLots, g -> g.addLot(3, 9999));
        KnitGrader g = withTenLots();
        Check.due("one is removed", () -> g.removeLot(0), 1);
        Check.due("a tenth one again", () -> g.addLot(2, 3), 9);
        Check.state("no eleventh one again", () -> g.addLot(2, 3));
        g.undo();
        Check.due("a tenth one behind an undo", () -> g.addLot(2, 4), 9);
    }

    private static void removeLot() {
        Check.sentence("Removes a lot; the numbers of the later ones decrease by 1. Returns its meters.");
        StringBuilder t = new StringBuilder("gauge 10 10 yarn 1;sizes s;");
        for (int i = 0; i < 10; i++) {
            t.append("lot ").append(i % 4).append(' ').append(100 + i).append(';');
        }
        for (int removed = 0; removed < 10; removed++) {
            KnitGrader g = Check.loaded(t.toString());
            int lot = removed;
            Check.due("removeLot(" + removed + ")", () -> g.removeLot(lot), 100 + removed);
            Check.due("nine are left", () -> g.count(4), 9);
            for (int i = 0; i < 9; i++) {
                int at = i;
                int was = i < removed ? i : i + 1;
                Check.due("color of lot " + i, () -> g.lot(at, 0), was % 4);
                Check.due("meters of lot " + i, () -> g.lot(at, 1), 100 + was);
            }
            Check.range("no tenth lot", () -> g.lot(9, 1));
        }
        KnitGrader all = Check.loaded(t.toString());
        for (int i = 0; i < 10; i++) {
            int first = i;
            Check.due("the first lot", () -> all.removeLot(0), 100 + first);
        }
        Check.due("none is left", () -> all.count(4), 0);
    }

    private static void removeOutside() {
        Check.sentence("removeLot: Throws IndexOutOfBoundsException if there is no such lot");
        refused("removeLot(4)", Check.RANGE, g -> g.removeLot(4));
        refused("removeLot(10)", Check.RANGE, g -> g.removeLot(10));
        for (int number : NOWHERE) {
            refused("removeLot(" + number + ")", Check.RANGE, g -> g.removeLot(number));
        }
        Check.refused("no lots", Check.RANGE, () -> Check.loaded("gauge 10 10 yarn 1;sizes s;measure a 1;"), g -> g.removeLot(0));
        Check.refused("ten lots", Check.RANGE, EdgesOfChangesTest::withTenLots, g -> g.removeLot(10));
        Check.due("the last lot", () -> text().removeLot(3), 4);
    }

    private static void undo() {
        Check.sentence("undo: brings back the state before the change");
        for (int number = 0; number < 6; number++) {
            KnitGrader g = Check.loaded(TEXT);
            String before = seen(g);
            change(g, number);
            Check.due("change " + number + " shows", () -> !seen(g).equals(before), true);
            Check.due("undo of it", g::undo, 0);
            Check.same("the state before it", seen(g), before);
        }
        KnitGrader g = Check.loaded(TEXT);
        g.setValue(0, 0, 1);
        Check.write(g, "b");
        g.undo();
        Check.due("the buffer stays", () -> g.find(1), 1);
        Check.due("the error code stays", () -> {
            KnitGrader t = text();
            t.undo();
            return t.errorCode() * 100 + t.errorPosition();
        }, 128);
    }

    private static void slotsStay() {
        Check.sentence("undo: The slots stay.");
        KnitGrader g = Check.loaded(TEXT);
        g.save(0);
        g.setValue(0, 0, 500);
        g.save(1);
        g.undo();
        Check.due("the state of slot 0", () -> g.differences(0), 0);
        Check.due("not that of slot 1", () -> g.differences(1), 3);
        g.restore(1);
        Check.due("what was saved in slot 1", () -> g.value(0, 0), 500);
        g.restore(0);
        Check.due("what was saved in slot 0", () -> g.value(0, 0), 100);
        KnitGrader none = Check.loaded(TEXT);
        none.setValue(0, 0, 500);
        none.undo();
        Check.missing("an empty slot stays empty", () -> none.differences(0));
    }

    private static void nothingToUndo() {
        Check.sentence("undo: Throws IllegalStateException if there is none");
        Check.refused("a new object", Check.STATE, KnitGrader::new, KnitGrader::undo);
        Check.refused("behind a load", Check.STATE, () -> Check.loaded(TEXT), KnitGrader::undo);
        Check.refused("behind an undo", Check.STATE, () -> {
            KnitGrader g = text();
            g.undo();
            g.undo();
            return g;
        }, KnitGrader::undo);
        Check.refused("behind a restore", Check.STATE, () -> {
            KnitGrader g = text();
            g.restore(1);
            return g;
        }, KnitGrader::undo);
        Check.refused("behind a save", Check.STATE, () -> {
            KnitGrader g = Check.loaded(TEXT);
            g.save(0);
            return g;
        }, KnitGrader::undo);
    }

    private static void save() {
        Check.sentence("Saves the state in a slot, in place of what was saved there. This is no change.");
        KnitGrader g = Check.loaded(TEXT);
        g.setValue(0, 0, 200);
        for (int slot = 0; slot < 2; slot++) {
            int one = slot;
            Check.due("save", Check.done(() -> g.save(one)), "done");
            Check.due("one change", () -> g.count(8), 1);
            Check.due("nothing different", () -> g.differences(one), 0);
        }
        g.setValue(0, 0, 300);
        g.save(0);
        g.setValue(0, 0, 400);
        g.restore(0);
        Check.due("in place of the first", () -> g.value(0, 0), 300);
        g.restore(1);
        Check.due("the other slot is as it was", () -> g.value(0, 0), 200);
        g.setValue(0, 0, 500);
        g.save(1);
        Check.due("undo of a change before a save", g::undo, 0);
        Check.due("the value before it", () -> g.value(0, 0), 200);
        g.restore(1);
        Check.due("the value that was saved", () -> g.value(0, 0), 500);
    }

    private static void saveOutside() {
        Check.sentence("slot: 0 or 1; save: Throws IndexOutOfBoundsException if there is no such slot");
        for (int slot : new int[] {-1, 2, 32, 33, Integer.MIN_VALUE, Integer.MAX_VALUE, 1 << 30}) {
            refused("save(" + slot + ")", Check.RANGE, g -> {
                g.save(slot);
                return 0;
            });
        }
    }

    private static void restore() {
        Check.sentence("Makes a saved state the present one.");
        KnitGrader g = changed(9);
        String state = seen(g);
        g.save(1);
        g.setGauge(33, 44, 55);
        g.grade(0, 1, 1);
        g.setEase(0, 0, 77);
        g.removeLot(0);
        g.addLot(2, 99);
        Check.write(g, "z");
        g.restore(1);
        Check.same("all of it", seen(g), state);
        Check.due("the buffer stays", () -> g.find(1), 2);
        KnitGrader t = text();
        t.restore(1);
        Check.due("the error code stays", t::errorCode, 1);
        Check.due("the error position stays", t::errorPosition, 28);
        Check.due("the lot that came later is gone", () -> t.count(4), 3);
        Check.due("the value that was there is back", () -> t.value(1, 0), 80);
    }

    private static void staysSaved() {
        Check.sentence("It stays saved.");
        KnitGrader g = Check.loaded(TEXT);
        g.setValue(0, 0, 150);
        g.save(0);
        for (int i = 0; i < 3; i++) {
            g.setValue(0, 0, 10 * i);
            g.restore(0);
            Check.due("restored", () -> g.value(0, 0), 150);
            Check.due("nothing different", () -> g.differences(0), 0);
            g.addLot(1, 1);
            g.undo();
        }
        g.setValue(0, 0, 30);
        Check.due("a change leaves it", () -> g.differences(0), 2);
    }

    private static void nothingToUndoThen() {
        Check.sentence("Nothing can be undone then.");
        KnitGrader g = changed(8);
        g.save(0);
        change(g, 9);
        g.restore(0);
        Check.due("no changes", () -> g.count(8), 0);
        Check.state("no undo", g::undo);
        Check.same("the state is the restored one", seen(g), seen(changed(8)));
        for (int i = 0; i < 9; i++) {
            g.setValue(0, 0, i);
        }
        for (int left = 7; left >= 0; left--) {
            Check.due("undo to " + left, g::undo, left);
        }
        Check.due("the first of nine changes stays", () -> g.value(0, 0), 0);
        g.restore(0);
        g.addLot(2, 7);
        Check.due("a change behind a restore", g::undo, 0);
        Check.same("is undone to the restored state", seen(g), seen(changed(8)));
    }

    private static void restoreOutside() {
        Check.sentence("restore: Throws IndexOutOfBoundsException if there is no such slot");
        for (int slot : new int[] {-1, 2, 32, 33, Integer.MIN_VALUE, Integer.MAX_VALUE, 1 << 30}) {
            refused("restore(" + slot + ")", Check.RANGE, g -> {
                g.restore(slot);
                return 0;
            });
        }
    }

    private static void restoreOfNothing() {
        Check.sentence("restore: Throws NoSuchElementException if nothing was saved there");
        refused("restore(0) with slot 1 alone", Check.MISSING, g -> {
            g.restore(0);
            return 0;
        });
        for (int slot = 0; slot < 2; slot++) {
            int one = slot;
            Check.CallOf call = g -> {
                g.restore(one);
                return 0;
            };
            Check.refused("restore(" + slot + ") of a new object", Check.MISSING, KnitGrader::new, call);
            Check.refused("restore(" + slot + ") with the other slot alone", Check.MISSING, () -> {
                KnitGrader g = new KnitGrader();
                g.setValue(0, 0, 7);
                g.save(1 - one);
                return g;
            }, call);
        }
    }

    private static void equalStates() {
        Check.sentence("Compares the present state with a saved one.");
        KnitGrader g = text();
        Check.due("with slot 1", () -> g.differences(1), 0);
        g.save(0);
        g.setValue(0, 0, 500);
        Check.due("with slot 0", () -> g.differences(0), 3);
        g.save(1);
        Check.due("with slot 1 now", () -> g.differences(1), 0);
        Check.due("with slot 0 still", () -> g.differences(0), 3);
        g.undo();
        Check.due("with slot 0 again", () -> g.differences(0), 0);
        Check.due("with slot 1 the other way round", () -> g.differences(1), 3);
        KnitGrader none = Check.loaded(SIX);
        none.save(0);
        none.setGauge(99, 99, 99);
        Check.due("no pieces", () -> none.differences(0), 0);
    }

    private static KnitGrader saved(String measures, String pieces) {
        KnitGrader g = Check.loaded("gauge 10 10 yarn 1;sizes s;" + measures + pieces);
        g.save(0);
        return g;
    }

    private static void otherRows() {
        Check.sentence("pairs of a size and a piece that have another number of rows");
        KnitGrader g = saved("measure a 100;measure l 50;", "piece p;cast a color 0;work l color 0;end;");
        g.setValue(1, 0, 54);
        Check.due("as many rows", () -> g.differences(0), 0);
        g.setValue(1, 0, 55);
        Check.due("a row more", () -> g.differences(0), 1);
        g.setValue(1, 0, 44);
        Check.due("a row less", () -> g.differences(0), 1);
        g.setValue(1, 0, 0);
        Check.due("a row alone", () -> g.differences(0), 1);
        KnitGrader none = saved("measure a 100;measure l 0;", "piece p;cast a color 0;work l color 0;end;");
        none.setValue(1, 0, 4);
        Check.due("no rows still", () -> none.differences(0), 0);
        none.setValue(1, 0, 5);
        Check.due("the first row", () -> none.differences(0), 1);
    }

    private static void otherStitches() {
        Check.sentence("or another number of stitches behind some row");
        KnitGrader first = saved("measure a 100;measure b 90;measure l 10;", "piece p;cast a color 0;shape b over l per 1 color 0;work l color 0;end;");
        first.setEase(0, 0, 4);
        Check.due("an ease that rounds away", () -> first.differences(0), 0);
        first.setEase(0, 0, -20);
        Check.due("the first row alone", () -> first.stitches(0, 0, 0) * 100 + first.stitches(0, 0, 1), 809);
        Check.due("makes a difference", () -> first.differences(0), 1);
        KnitGrader last = saved("measure a 100;measure b 90;measure l 10;", "piece p;cast a color 0;work l color 0;shape b over l per 1 color 0;end;");
        last.setEase(0, 2, 10);
        Check.due("the last row alone", () -> last.stitches(0, 0, 1) * 100 + last.stitches(0, 0, 2), 1010);
        Check.due("makes a difference too", () -> last.differences(0), 1);
        KnitGrader between = saved("measure a 100;measure b 110;measure l 40;", "piece p;cast a color 0;shape b over l per 1 color 0;shape a over l per 1 color 0;work l color 0;end;");
        between.setEase(0, 1, -20);
        Check.due("rows between alone", () -> between.stitches(0, 0, 3) * 10000 + between.stitches(0, 0, 4) * 100 + between.stitches(0, 0, 8), 100910);
        Check.due("make a difference too", () -> between.differences(0), 1);
        KnitGrader moved = saved("measure a 100;measure l 40;measure m 60;", "chart x kyt;piece p;cast a by 3 color 0;work l color 0;work m color 0 chart x;end;");
        moved.setValue(1, 0, 60);
        moved.setValue(2, 0, 40);
        Check.due("other borders of parts with the same stitches", () -> moved.differences(0), 0);
    }

    /** Two states with as many rows, of which but one has other stitches; compared both ways. */
    private static void oneRow(KnitGrader g, String what, int[] one, int[] other) {
        for (int i = 0; i < one.length; i++) {
            g.setValue(i, 0, one[i]);
        }
        g.save(0);
        int rows = g.rows(0, 0);
        int[] behind = new int[rows];
        for (int row = 0; row < rows; row++) {
            behind[row] = g.stitches(0, 0, row);
        }
        for (int i = 0; i < other.length; i++) {
            g.setValue(i, 0, other[i]);
        }
        Check.due(what + ": rows", () -> g.rows(0, 0), rows);
        Check.due(what + ": failure", () -> g.failure(0, 0), 0);
        int others = 0;
        for (int row = 0; row < rows; row++) {
            others += g.stitches(0, 0, row) != behind[row] ? 1 : 0;
        }
        Check.same(what + ": rows with other stitches", String.valueOf(others), "1");
        Check.due(what, () -> g.differences(0), 1);
        g.save(1);
        g.restore(0);
        Check.due(what + ", the other way round", () -> g.differences(1), 1);
    }

    private static void oneOtherRow() {
        Check.sentence("another number of stitches behind some row (one alone)");
        String shape = "gauge 10 10 yarn 1;sizes s;measure a 200;measure b 210;measure l 10;measure m 10;";
        for (int rows = 1; rows <= 9; rows++) {
            KnitGrader last = Check.loaded(shape + "piece p;cast a color 0;shape b over l per 1 color 0;work m color 0;end;");
            oneRow(last, "a shaping row that moves from row " + rows, new int[] {200, 210, 10 * rows, 110 - 10 * rows}, new int[] {200, 210, 10 * rows + 10, 100 - 10 * rows});
            KnitGrader first = Check.loaded(shape + "measure o 10;piece p;cast a color 0;work l color 0;shape b over o per 1 color 0;work m color 0;end;");
            oneRow(first, "a shape that moves from row " + rows, new int[] {200, 210, 10 * rows, 110 - 10 * rows}, new int[] {200, 210, 10 * rows + 10, 100 - 10 * rows});
        }
        String[] charts = {"yk t k k k k k k", "k yk t k k k k k", "k k yk t k k k k", "k k k yk t k k k", "k k k k yk t k k", "k k k k k yk t k", "k k k k k k yk t"};
        for (String rows : charts) {
            KnitGrader plain = Check.loaded(shape + "chart x " + rows + ";piece p;cast a color 0;work l color 0 chart x;work m color 0;end;");
            oneRow(plain, "a chart for plain rows: " + rows, new int[] {200, 210, 80, 0}, new int[] {200, 210, 0, 80});
            KnitGrader charted = Check.loaded(shape + "chart x k k k k k k k k;chart y " + rows + ";piece p;cast a color 0;work l color 0 chart x;work m color 0 chart y;end;");
            oneRow(charted, "a chart for another one: " + rows, new int[] {200, 210, 80, 0}, new int[] {200, 210, 0, 80});
        }
        KnitGrader longer = Check.loaded(shape + "piece p;cast a color 0;work l color 0;shape b over m per 1 color 0;end;");
        oneRow(longer, "a shape that starts a row earlier", new int[] {200, 220, 20, 80}, new int[] {200, 220, 10, 90});
        KnitGrader ahead = Check.loaded(shape + "piece p;cast a color 0;shape b over l per 1 color 0;work m color 0;end;");
        oneRow(ahead, "a cast alone", new int[] {200, 210, 10, 10}, new int[] {210, 210, 10, 10});
    }

    private static void otherRowsOfAPart() {
        Check.sentence("another number of stitches behind some row (within a part)");
        KnitGrader g = saved("measure a 200;measure b 210;measure l 100;measure m 20;", "piece p;cast a color 0;shape b over l per 1 color 0;shape a over m per 1 color 0;end;");
        g.setValue(1, 0, 220);
        Check.due("one shaping row more", () -> g.shaping(0, 0, 1, 0) * 100 + g.shaping(0, 0, 1, 1), 510);
        Check.due("the same first rows", () -> g.stitches(0, 0, 4), 20);
        Check.due("the same last row", () -> g.stitches(0, 0, 12), 20);
        Check.due("other rows between", () -> g.differences(0), 1);
        KnitGrader parts = saved("measure a 200;measure b 240;measure c 240;measure l 100;measure m 0;",
            "piece p;cast a color 0;shape b over l per 1 color 0;shape c over m per 2 color 0;end;");
        parts.setValue(1, 0, 200);
        parts.setValue(3, 0, 0);
        parts.setValue(4, 0, 100);
        Check.due("shaped by another part", () -> parts.shaping(0, 0, 2, 1), 10);
        Check.due("in other steps", () -> parts.differences(0), 1);
    }

    private static void otherFailures() {
        Check.sentence("or that fail with another part or reason");
        KnitGrader g = saved("measure a 100;measure b 110;measure c 100;measure z 0;", "piece p;cast a color 0;shape b over z per 1 color 0;shape c plus 10 over z per 2 color 0;end;");
        Check.due("fails with part 1", () -> g.failure(0, 0), 12);
        g.setValue(1, 0, 100);
        Check.due("fails with part 2", () -> g.failure(0, 0), 21);
        Check.due("another part, the same row", () -> g.differences(0), 1);
        g.save(1);
        g.setEase(0, 2, 20);
        Check.due("fails with part 2 for another reason", () -> g.failure(0, 0), 22);
        Check.due("another reason, the same row", () -> g.differences(1), 1);
        Check.due("still another part", () -> g.differences(0), 1);
        g.save(1);
        g.setEase(0, 2, 40);
        Check.due("the same part and reason", () -> g.differences(1), 0);
        g.setEase(0, 2, 0);
        Check.due("does not fail", () -> g.failure(0, 0), 0);
        Check.due("failed before", () -> g.differences(1), 1);
        g.save(1);
        g.setEase(0, 2, 20);
        Check.due("fails now", () -> g.differences(1), 1);
        KnitGrader behind = saved("measure a 100;measure b 115;measure l 50;", "piece p;cast a color 0;shape b over l per 4 color 0;work l color 0;end;");
        Check.due("fails with part 1", () -> behind.failure(0, 0), 11);
        behind.setValue(2, 0, 90);
        behind.setEase(0, 1, 10);
        Check.due("what is behind a failure makes no difference", () -> behind.differences(0), 0);
    }

    private static void pairsOfSizesAndPieces() {
        Check.sentence("Returns the number of pairs of a size and a piece");
        StringBuilder t = new StringBuilder("gauge 10 10 yarn 1;sizes a b c d e f;measure x 100 100 100 100 100 100;measure y 50 50 50 50 50 50;");
        for (int i = 0; i < 6; i++) {
            t.append("piece p").append((char) ('a' + i)).append(";cast ").append(i < 4 ? "x" : "y").append(" color 0;end;");
        }
        KnitGrader g = Check.loaded(t.toString());
        g.save(0);
        for (int size = 0; size < 6; size++) {
            g.setValue(0, size, 110);
            int sizes = size + 1;
            Check.due("four pieces in " + sizes + " sizes", () -> g.differences(0), 4 * sizes);
        }
        g.setEase(5, 0, 10);
        Check.due("and the last piece in all sizes", () -> g.differences(0), 30);
        g.setValue(1, 5, 3000);
        Check.due("and another one in the last size", () -> g.differences(0), 31);
        g.setGauge(99, 99, 1);
        Check.due("all pieces in all sizes", () -> g.differences(0), 36);
    }

    private static void yarnIsNoDifference() {
        Check.sentence("differences: the yarn, the lots, and measures that no piece uses are not compared");
        KnitGrader g = saved("measure a 100;measure b 50;", "piece p;cast a color 0;end;lot 0 5;");
        g.setGauge(10, 99, 99);
        g.removeLot(0);
        g.addLot(3, 3);
        g.setValue(1, 0, 3000);
        Check.due("rows of a cast do not need the gauge", () -> g.differences(0), 0);
    }

    private static void differencesOutside() {
        Check.sentence("differences: Throws IndexOutOfBoundsException if there is no such slot");
        for (int slot : new int[] {-1, 2, 32, 33, Integer.MIN_VALUE, Integer.MAX_VALUE, 1 << 30}) {
            refused("differences(" + slot + ")", Check.RANGE, g -> g.differences(slot));
            Check.refused("differences(" + slot + ") with empty slots", Check.RANGE, KnitGrader::new, g -> g.differences(slot));
        }
    }

    private static void differencesOfNothing() {
        Check.sentence("differences: Throws NoSuchElementException if nothing was saved there");
        refused("differences(0) with slot 1 alone", Check.MISSING, g -> g.differences(0));
        for (int slot = 0; slot < 2; slot++) {
            int one = slot;
            Check.refused("differences(" + slot + ") of a new object", Check.MISSING, KnitGrader::new, g -> g.differences(one));
            Check.refused("differences(" + slot + ") behind a load", Check.MISSING, () -> {
                KnitGrader g = new KnitGrader();
                g.save(0);
                g.save(1);
                Check.write(g, TEXT);
                g.load();
                return g;
            }, g -> g.differences(one));
        }
    }
}
