/** Promises 30 to 39: changes, undo, and saved states. */
public final class ChangesTest {
    private static final String TEXT = "gauge 20 30 yarn 10;sizes s m;measure hip 400 450;measure waist 350 400;measure long 100 120;measure other 120 100;"
        + "chart lace kyt kkk;piece a;cast hip by 3 color 0;work long color 1 chart lace;shape waist plus 7 over long per 1 color 0;end;"
        + "piece b;cast hip color 0;work long color 1;work other color 0;end;piece c;cast waist color 2;shape hip over long per 2 color 2;end;"
        + "lot 0 50;lot 1 60;lot 2 70;";

    private ChangesTest() {
    }

    public static void main(String[] args) {
        setGauge();
        setValue();
        grade();
        setEase();
        addLot();
        removeLot();
        undo();
        undoOfEach();
        undoAtMostEight();
        save();
        restore();
        differences();
        differencesBesidesStitches();
        differenceOfOneRow();
        Check.end("ChangesTest");
    }

    private static void setGauge() {
        KnitGrader g = Check.loaded(TEXT);
        Check.due("nothing fails", () -> g.setGauge(20, 30, 10), 0);
        Check.due("it is a change all the same", () -> g.count(8), 1);
        // At 21 stitches c goes from 74 to 84 and from 84 to 95: the difference is odd in size m.
        Check.due("a piece fails in one size", () -> g.setGauge(21, 47, 99), 1);
        Check.due("which", () -> g.failure(1, 2), 11);
        Check.due("stitches", () -> g.count(5), 21);
        Check.due("rows", () -> g.count(6), 47);
        Check.due("yarn", () -> g.count(7), 99);
        Check.due("the rows of a length", () -> g.partRows(0, 1, 1), 47);
        // With 5 rows a length has 5 or 6 rows: a needs 10 shaping rows, c 5.
        Check.due("pieces fail in both sizes", () -> g.setGauge(20, 5, 10), 2);
        int[][] wrong = {{4, 30, 10}, {100, 30, 10}, {20, 4, 10}, {20, 100, 10}, {20, 30, 0}, {20, 30, 100}, {-20, 30, 10},
            {Integer.MAX_VALUE, 30, 10}, {20, Integer.MIN_VALUE, 10}};
        for (int[] one : wrong) {
            Check.argument("setGauge(" + one[0] + ", " + one[1] + ", " + one[2] + ")", () -> g.setGauge(one[0], one[1], one[2]));
        }
        Check.due("what throws is no change", () -> g.count(8), 3);
        Check.due("what throws changes nothing", () -> g.count(6), 5);
        Check.due("the least gauge", () -> Check.loaded("gauge 20 30 yarn 10;sizes s;").setGauge(5, 5, 1), 0);
        Check.due("the greatest gauge", () -> Check.loaded("gauge 20 30 yarn 10;sizes s;").setGauge(99, 99, 99), 0);
    }

    private static void setValue() {
        KnitGrader g = Check.loaded(TEXT);
        Check.due("the previous value", () -> g.setValue(0, 1, 460), 450);
        Check.due("the new value", () -> g.value(0, 1), 460);
        Check.due("the other size stays", () -> g.value(0, 0), 400);
        Check.due("stitches by the new value", () -> g.stitches(1, 1, 0), 92);
        Check.due("set to 0", () -> g.setValue(3, 0, 0), 120);
        Check.due("set to 3000", () -> g.setValue(3, 0, 3000), 0);
        Check.due("set to the same", () -> g.setValue(3, 0, 3000), 3000);
        Check.due("four changes", () -> g.count(8), 4);
        Check.argument("setValue(0, 0, -1)", () -> g.setValue(0, 0, -1));
        Check.argument("setValue(0, 0, 3001)", () -> g.setValue(0, 0, 3001));
        Check.range("setValue of no measure", () -> g.setValue(4, 0, 5));
        Check.range("setValue of measure -1", () -> g.setValue(-1, 0, 5));
        Check.range("setValue of no size", () -> g.setValue(0, 2, 5));
        Check.range("setValue of size -1", () -> g.setValue(0, -1, 5));
        Check.range("no size comes before the value", () -> g.setValue(0, 2, 3001));
        Check.due("what throws is no change", () -> g.count(8), 4);
    }

    private static void grade() {
        KnitGrader g = Check.loaded("gauge 20 30 yarn 10;sizes a b c d;measure x 1 2 3 4;measure y 5 6 7 8;");
        Check.due("the last value", () -> g.grade(0, 100, 50), 250);
        for (int s = 0; s < 4; s++) {
            int size = s;
            Check.due("value " + s, () -> g.value(0, size), 100 + 50 * s);
            Check.due("another measure", () -> g.value(1, size), 5 + s);
        }
        Check.due("down to 0", () -> g.grade(0, 3000, -1000), 0);
        Check.due("the value before it", () -> g.value(0, 2), 1000);
        Check.due("up to 3000", () -> g.grade(0, 0, 1000), 3000);
        Check.due("all the same", () -> g.grade(0, 7, 0), 7);
        int[][] wrong = {{3000, -1001}, {0, 1001}, {-1, 1}, {-1, 100}, {3001, 0}, {3001, -10}, {0, -1}, {2, -1}, {2998, 1}, {3000, 1}, {0, Integer.MAX_VALUE},
            {0, Integer.MIN_VALUE}, {3000, 1 << 30}, {0, 1 << 31}, {0, 1431655765}, {0, 1431655766}, {Integer.MIN_VALUE, 1}, {Integer.MAX_VALUE, -1},
            {Integer.MAX_VALUE, Integer.MAX_VALUE}};
        for (int[] one : wrong) {
            Check.argument("grade(0, " + one[0] + ", " + one[1] + ")", () -> g.grade(0, one[0], one[1]));
        }
        Check.due("what throws changes nothing", () -> g.value(0, 3), 7);
        Check.due("what throws is no change", () -> g.count(8), 4);
        Check.range("grade of no measure", () -> g.grade(2, 0, 0));
        Check.range("grade of measure -1", () -> g.grade(-1, 0, 0));
        Check.range("no measure comes before the values", () -> g.grade(2, -1, 0));
        KnitGrader alone = Check.loaded("gauge 20 30 yarn 10;sizes a;measure x 1;");
        Check.due("any step with one size", () -> alone.grade(0, 44, Integer.MIN_VALUE), 44);
        Check.due("any other step with one size", () -> alone.grade(0, 3000, Integer.MAX_VALUE), 3000);
        Check.argument("but not any first", () -> alone.grade(0, 3001, 0));
    }

    private static void setEase() {
        KnitGrader g = Check.loaded(TEXT);
        Check.due("the previous ease of a cast", () -> g.setEase(0, 0, -25), 0);
        Check.due("the previous ease of a shape", () -> g.setEase(0, 2, 999), 7);
        Check.due("the ease now", () -> g.part(0, 0, 3), -25);
        Check.due("the ease of the shape now", () -> g.setEase(0, 2, -999), 999);
        Check.due("stitches with the ease", () -> g.stitches(0, 0, 0), 75);
        Check.state("work has no width", () -> g.setEase(0, 1, 5));
        Check.argument("ease 1000", () -> g.setEase(0, 0, 1000));
        Check.argument("ease -1000", () -> g.setEase(0, 0, -1000));
        Check.argument("the ease comes before the width", () -> g.setEase(0, 1, 1000));
        Check.range("setEase of no piece", () -> g.setEase(3, 0, 0));
        Check.range("setEase of piece -1", () -> g.setEase(-1, 0, 0));
        Check.range("setEase of no part", () -> g.setEase(2, 2, 0));
        Check.range("setEase of part -1", () -> g.setEase(0, -1, 0));
        Check.range("no part comes before the ease", () -> g.setEase(2, 2, 1000));
        Check.due("three changes", () -> g.count(8), 3);
    }

    private static void addLot() {
        KnitGrader g = Check.loaded(TEXT);
        Check.argument("color 4", () -> g.addLot(4, 5));
        Check.argument("color -1", () -> g.addLot(-1, 5));
        Check.argument("no meters", () -> g.addLot(0, 0));
        Check.argument("10000 meters", () -> g.addLot(0, 10000));
        for (int i = 3; i < 10; i++) {
            int meters = i == 3 ? 1 : i == 4 ? 9999 : i;
            int color = i % 4;
            Check.due("lot " + i, () -> g.addLot(color, meters), i);
        }
        Check.due("color of the last lot", () -> g.lot(9, 0), 1);
        Check.due("meters of the last lot", () -> g.lot(9, 1), 9);
        Check.due("greatest meters", () -> g.lot(4, 1), 9999);
        Check.state("an 11th lot", () -> g.addLot(0, 5));
        Check.argument("the arguments come before the room", () -> g.addLot(4, 5));
        Check.due("seven changes", () -> g.count(8), 7);
        Check.due("ten lots", () -> g.count(4), 10);
    }

    private static void removeLot() {
        KnitGrader g = Check.loaded(TEXT);
        Check.due("meters of the removed lot", () -> g.removeLot(1), 60);
        Check.due("lots left", () -> g.count(4), 2);
        Check.due("the later lot comes up", () -> g.lot(1, 1), 70);
        Check.due("with its color", () -> g.lot(1, 0), 2);
        Check.due("the earlier one stays", () -> g.lot(0, 1), 50);
        Check.range("removeLot(2)", () -> g.removeLot(2));
        Check.range("removeLot(-1)", () -> g.removeLot(-1));
        Check.due("remove the last one", () -> g.removeLot(1), 70);
        Check.due("remove the first one", () -> g.removeLot(0), 50);
        Check.range("no lots left", () -> g.removeLot(0));
        Check.due("a lot after all", () -> g.addLot(3, 4), 0);
        Check.due("four changes", () -> g.count(8), 4);
        KnitGrader full = Check.loaded("gauge 20 30 yarn 10;sizes s;lot 0 1;lot 1 2;lot 2 3;lot 3 4;lot 0 5;lot 1 6;lot 2 7;lot 3 8;lot 0 9;lot 1 10;");
        full.removeLot(0);
        for (int i = 0; i < 9; i++) {
            int lot = i;
            Check.due("meters of lot " + i, () -> full.lot(lot, 1), i + 2);
            Check.due("color of lot " + i, () -> full.lot(lot, 0), (i + 1) % 4);
        }
    }

    private static void undo() {
        KnitGrader g = Check.loaded(TEXT);
        Check.state("nothing to undo", g::undo);
        g.setValue(0, 0, 1);
        g.setValue(0, 0, 2);
        g.setValue(0, 0, 3);
        Check.due("undo one of three", g::undo, 2);
        Check.due("the second value", () -> g.value(0, 0), 2);
        Check.due("undo two of three", g::undo, 1);
        g.setValue(0, 0, 4);
        Check.due("undo the new change", g::undo, 1);
        Check.due("the first value", () -> g.value(0, 0), 1);
        Check.due("undo all", g::undo, 0);
        Check.due("the value of the text", () -> g.value(0, 0), 400);
        Check.state("nothing more to undo", g::undo);
        g.save(0);
        g.setValue(0, 0, 9);
        g.save(1);
        g.undo();
        Check.due("slot 0 stays", () -> g.differences(0), 0);
        // In size s the hip is the cast of a and of b, and the goal of c.
        Check.due("slot 1 stays", () -> g.differences(1), 3);
    }

    private static void undoOfEach() {
        KnitGrader g = Check.loaded(TEXT);
        g.setGauge(33, 44, 55);
        g.undo();
        int[] counts = {2, 4, 1, 3, 3, 20, 30, 10, 0};
        for (int what = 0; what < counts.length; what++) {
            int asked = what;
            Check.due("undo of setGauge: count(" + what + ")", () -> g.count(asked), counts[what]);
        }
        g.grade(1, 10, 10);
        g.undo();
        Check.due("undo of grade", () -> g.value(1, 0) + 1000 * g.value(1, 1), 400350);
        g.setEase(0, 2, -8);
        g.undo();
        Check.due("undo of setEase", () -> g.part(0, 2, 3), 7);
        g.addLot(3, 5);
        g.undo();
        Check.range("undo of addLot", () -> g.lot(3, 0));
        g.removeLot(0);
        g.undo();
        Check.due("undo of removeLot", () -> g.lot(0, 1) + 100 * g.lot(1, 1) + 10000 * g.lot(2, 1), 706050);
        Check.due("undo of removeLot, the colors", () -> g.lot(0, 0) + 10 * g.lot(1, 0) + 100 * g.lot(2, 0), 210);
    }

    private static void undoAtMostEight() {
        KnitGrader g = Check.loaded(TEXT);
        for (int i = 1; i <= 19; i++) {
            g.setValue(0, 0, i);
            int changes = Math.min(i, 8);
            Check.due("changes after " + i, () -> g.count(8), changes);
        }
        for (int i = 18; i >= 11; i--) {
            int left = i - 11;
            Check.due("undo to " + i, g::undo, left);
            Check.due("value " + i, () -> g.value(0, 0), i);
        }
        Check.state("a ninth undo", g::undo);
        Check.due("which changes nothing", () -> g.value(0, 0), 11);
    }

    private static void save() {
        KnitGrader g = Check.loaded(TEXT);
        Check.range("save(2)", Check.done(() -> g.save(2)));
        Check.range("save(-1)", Check.done(() -> g.save(-1)));
        Check.missing("slot 0 is still empty", () -> g.differences(0));
        Check.missing("slot 1 is still empty", () -> g.differences(1));
        g.setValue(0, 0, 1);
        g.save(1);
        Check.due("save is no change", () -> g.count(8), 1);
        Check.missing("slot 0 is empty", () -> g.differences(0));
        g.setValue(0, 0, 2);
        g.save(0);
        g.setValue(0, 0, 3);
        g.save(1);
        g.setValue(0, 0, 4);
        g.restore(1);
        Check.due("the later save counts", () -> g.value(0, 0), 3);
        g.restore(0);
        Check.due("the other slot", () -> g.value(0, 0), 2);
    }

    private static void restore() {
        KnitGrader g = Check.loaded(TEXT);
        Check.range("restore(2)", Check.done(() -> g.restore(2)));
        Check.range("restore(-1)", Check.done(() -> g.restore(-1)));
        Check.missing("restore of an empty slot", Check.done(() -> g.restore(0)));
        g.save(0);
        g.setGauge(33, 44, 55);
        g.grade(1, 10, 10);
        g.setEase(0, 2, -8);
        g.removeLot(0);
        g.addLot(3, 5);
        g.addLot(3, 6);
        Check.missing("restore of the other slot", Check.done(() -> g.restore(1)));
        Check.due("what throws leaves the changes", () -> g.count(8), 6);
        Check.due("restore", Check.done(() -> g.restore(0)), "done");
        int[] counts = {2, 4, 1, 3, 3, 20, 30, 10, 0};
        for (int what = 0; what < counts.length; what++) {
            int asked = what;
            Check.due("restored: count(" + what + ")", () -> g.count(asked), counts[what]);
        }
        Check.due("restored: values", () -> g.value(1, 0) + 1000 * g.value(1, 1), 400350);
        Check.due("restored: ease", () -> g.part(0, 2, 3), 7);
        Check.due("restored: lots", () -> g.lot(0, 1) + 100 * g.lot(1, 1) + 10000 * g.lot(2, 1), 706050);
        Check.state("nothing can be undone", g::undo);
        g.setValue(0, 0, 5);
        Check.due("a change after it can", () -> g.count(8), 1);
        g.restore(0);
        Check.due("the slot stays saved, and is not what changed", () -> g.value(0, 0), 400);
        Check.due("and the text buffer stays", () -> g.append(0, 0, 0, 0, 0), 20);
        g.restore(0);
        Check.due("indeed", () -> g.truncate(20), 20);
    }

    private static void differences() {
        KnitGrader g = Check.loaded(TEXT);
        Check.range("differences(2)", () -> g.differences(2));
        Check.range("differences(-1)", () -> g.differences(-1));
        Check.missing("differences with an empty slot", () -> g.differences(0));
        g.save(0);
        Check.due("nothing changed", () -> g.differences(0), 0);
        Check.missing("the other slot is empty", () -> g.differences(1));
        g.setValue(3, 0, 130);
        Check.due("more rows of b in size s", () -> g.differences(0), 1);
        g.undo();
        g.setEase(1, 0, 5);
        Check.due("more stitches of b in both sizes", () -> g.differences(0), 2);
        g.undo();
        g.setGauge(21, 30, 10);
        Check.due("more stitches of all", () -> g.differences(0), 6);
        g.undo();
        g.setGauge(20, 31, 10);
        Check.due("more rows of all", () -> g.differences(0), 6);
        g.save(1);
        Check.due("the state of slot 1", () -> g.differences(1), 0);
        g.undo();
        Check.due("seen from the other side", () -> g.differences(1), 6);
        g.setValue(1, 0, 360);
        // a ends with two stitches more, c starts with two more; b does not know this measure.
        Check.due("the last and the first stitches", () -> g.differences(0), 2);
    }

    private static void differencesBesidesStitches() {
        KnitGrader g = Check.loaded(TEXT);
        g.save(0);
        g.setGauge(20, 30, 99);
        g.addLot(3, 5);
        g.removeLot(0);
        Check.due("yarn and lots make no difference", () -> g.differences(0), 0);
        g.setValue(2, 0, 90);
        g.setValue(3, 0, 130);
        // b has as many rows as before, with other borders of its parts; a and c have fewer.
        Check.due("the borders of parts make no difference", () -> g.differences(0), 2);
        g.restore(0);
        g.setEase(0, 0, 2);
        Check.due("an ease that rounds away", () -> g.differences(0), 0);
        KnitGrader fails = Check.loaded("gauge 20 30 yarn 10;sizes s;measure a 350;measure b 400;measure c 10;measure z 0;chart x kyt kkk;"
            + "piece p;cast a color 0;shape b over c per 4 color 0;end;piece q;cast a color 0;work z color 0 chart x;shape b over z per 1 color 0;end;");
        Check.due("fails with reason 1", () -> fails.failure(0, 0), 11);
        fails.save(0);
        fails.setValue(1, 0, 430);
        Check.due("fails with reason 2", () -> fails.failure(0, 0), 12);
        Check.due("another reason", () -> fails.differences(0), 1);
        Check.due("q fails as before", () -> fails.failure(0, 1), 13);
        fails.restore(0);
        fails.setValue(0, 0, 360);
        fails.save(1);
        Check.due("q fails with a later part", () -> fails.failure(0, 1), 22);
        Check.due("and all have other stitches", () -> fails.differences(0), 2);
    }

    /** A shape with one shaping row, its last one, that moves by a row; rows are added to it as they are taken from the work behind it. */
    private static void differenceOfOneRow() {
        KnitGrader g = Check.loaded("gauge 20 30 yarn 10;sizes s;measure a 100;measure b 33;measure c 17;"
            + "piece p;cast a color 0;shape a plus 5 over b per 1 color 0;work c color 0;end;");
        int[][] lengths = {{33, 17}, {37, 13}, {40, 10}};
        for (int i = 0; i < 3; i++) {
            int shaped = 10 + i;
            g.setValue(1, 0, lengths[i][0]);
            g.setValue(2, 0, lengths[i][1]);
            Check.due("one row: rows", () -> g.rows(0, 0), 16);
            Check.due("one row: shaping", () -> g.shaping(0, 0, 1, 0), shaped);
            if (i > 0) {
                Check.due("one row: differences with shaping row " + shaped, () -> g.differences(0), 1);
            }
            g.save(0);
        }
    }
}
