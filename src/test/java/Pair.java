import java.util.ArrayList;
import java.util.List;
import java.util.Map;
import java.util.TreeMap;

/** A KnitGrader and a NaiveGrader that are asked the same calls: each answer, and each exception, must be the same. */
final class Pair {
    static final int MOST_CALLS = 512;

    private static final TreeMap<String, Integer> SEEN = new TreeMap<>();

    final NaiveGrader naive = new NaiveGrader();
    private final KnitGrader fast = new KnitGrader();
    private final List<String> log = new ArrayList<>();
    private int calls = 0;

    int calls() {
        return calls;
    }

    /** How often each call gave each kind of answer. */
    static Map<String, Integer> seen() {
        return SEEN;
    }

    private static void see(String what) {
        SEEN.merge(what, 1, Integer::sum);
    }

    private static String call(String name, Object... arguments) {
        StringBuilder call = new StringBuilder(name).append('(');
        for (int i = 0; i < arguments.length; i++) {
            call.append(i > 0 ? ", " : "").append(arguments[i]);
        }
        return call.append(')').toString();
    }

    private void both(String call, Check.Call one, Check.Call other) {
        if (calls == MOST_CALLS) {
            throw new AssertionError("what later calls answer is free");
        }
        calls++;
        log.add(call);
        String want = Check.told(other);
        String got = Check.told(one);
        see(call.substring(0, call.indexOf('(')) + (want.startsWith("throws") ? " " + want : " answers"));
        if (!got.equals(want)) {
            log.forEach(System.out::println);
        }
        Check.same(call + ", call " + calls, got, want);
    }

    /** Writes a text into the empty buffer, and loads it; takes at most 80 calls. */
    void loadText(String text) {
        String cut = text.length() > 1500 ? text.substring(0, 1500) : text;
        log.add("text " + cut);
        truncate(0);
        for (int at = 0; at < cut.length(); at += 20) {
            int[] f = new int[5];
            for (int i = 0; i < 20; i++) {
                int sign = at + i < cut.length() ? cut.charAt(at + i) & 255 : 32;
                f[i / 4] = f[i / 4] << 8 | sign;
            }
            append(f[0], f[1], f[2], f[3], f[4]);
        }
        truncate(cut.length());
        load();
        see("error " + naive.errorCode());
    }

    void append(int a, int b, int c, int d, int e) {
        both(call("append", a, b, c, d, e), () -> fast.append(a, b, c, d, e), () -> naive.append(a, b, c, d, e));
    }

    void truncate(int length) {
        both(call("truncate", length), () -> fast.truncate(length), () -> naive.truncate(length));
    }

    void load() {
        both("load()", fast::load, naive::load);
    }

    void errors() {
        both("errorCode()", fast::errorCode, naive::errorCode);
        both("errorPosition()", fast::errorPosition, naive::errorPosition);
    }

    void find(int what) {
        both(call("find", what), () -> fast.find(what), () -> naive.find(what));
    }

    void count(int what) {
        both(call("count", what), () -> fast.count(what), () -> naive.count(what));
    }

    void value(int measure, int size) {
        both(call("value", measure, size), () -> fast.value(measure, size), () -> naive.value(measure, size));
    }

    void isGraded(int measure) {
        both(call("isGraded", measure), () -> fast.isGraded(measure), () -> naive.isGraded(measure));
    }

    void fits(int measure, int millimeters) {
        both(call("fits", measure, millimeters), () -> fast.fits(measure, millimeters), () -> naive.fits(measure, millimeters));
    }

    void chart(int chart, int what) {
        both(call("chart", chart, what), () -> fast.chart(chart, what), () -> naive.chart(chart, what));
    }

    void chartRow(int chart, int row, boolean makes) {
        both(call("chartRow", chart, row, makes), () -> fast.chartRow(chart, row, makes), () -> naive.chartRow(chart, row, makes));
    }

    void part(int piece, int part, int what) {
        both(call("part", piece, part, what), () -> fast.part(piece, part, what), () -> naive.part(piece, part, what));
    }

    void parts(int piece) {
        both(call("parts", piece), () -> fast.parts(piece), () -> naive.parts(piece));
    }

    void failure(int size, int piece) {
        both(call("failure", size, piece), () -> fast.failure(size, piece), () -> naive.failure(size, piece));
    }

    void rows(int size, int piece) {
        both(call("rows", size, piece), () -> fast.rows(size, piece), () -> naive.rows(size, piece));
    }

    void partRows(int size, int piece, int part) {
        both(call("partRows", size, piece, part), () -> fast.partRows(size, piece, part), () -> naive.partRows(size, piece, part));
    }

    void stitches(int size, int piece, int row) {
        both(call("stitches", size, piece, row), () -> fast.stitches(size, piece, row), () -> naive.stitches(size, piece, row));
    }

    void partAt(int size, int piece, int row) {
        both(call("partAt", size, piece, row), () -> fast.partAt(size, piece, row), () -> naive.partAt(size, piece, row));
    }

    void extreme(int size, int piece, boolean greatest) {
        both(call("extreme", size, piece, greatest), () -> fast.extreme(size, piece, greatest), () -> naive.extreme(size, piece, greatest));
    }

    void shaping(int size, int piece, int part, int index) {
        both(call("shaping", size, piece, part, index), () -> fast.shaping(size, piece, part, index), () -> naive.shaping(size, piece, part, index));
    }

    void width(int size, int piece, int row) {
        both(call("width", size, piece, row), () -> fast.width(size, piece, row), () -> naive.width(size, piece, row));
    }

    void mean(int size, int piece) {
        both(call("mean", size, piece), () -> fast.mean(size, piece), () -> naive.mean(size, piece));
    }

    void need(int size, int piece, int color) {
        both(call("need", size, piece, color), () -> fast.need(size, piece, color), () -> naive.need(size, piece, color));
    }

    void lot(int lot, int what) {
        both(call("lot", lot, what), () -> fast.lot(lot, what), () -> naive.lot(lot, what));
    }

    void dealt(int size, int piece, int color) {
        both(call("dealt", size, piece, color), () -> fast.dealt(size, piece, color), () -> naive.dealt(size, piece, color));
    }

    void lotsUsed(int size) {
        both(call("lotsUsed", size), () -> fast.lotsUsed(size), () -> naive.lotsUsed(size));
    }

    void possible() {
        both("possible()", fast::possible, naive::possible);
    }

    void setGauge(int stitches, int rows, int yarn) {
        both(call("setGauge", stitches, rows, yarn), () -> fast.setGauge(stitches, rows, yarn), () -> naive.setGauge(stitches, rows, yarn));
    }

    void setValue(int measure, int size, int value) {
        both(call("setValue", measure, size, value), () -> fast.setValue(measure, size, value), () -> naive.setValue(measure, size, value));
    }

    void grade(int measure, int first, int step) {
        both(call("grade", measure, first, step), () -> fast.grade(measure, first, step), () -> naive.grade(measure, first, step));
    }

    void setEase(int piece, int part, int ease) {
        both(call("setEase", piece, part, ease), () -> fast.setEase(piece, part, ease), () -> naive.setEase(piece, part, ease));
    }

    void addLot(int color, int meters) {
        both(call("addLot", color, meters), () -> fast.addLot(color, meters), () -> naive.addLot(color, meters));
    }

    void removeLot(int lot) {
        both(call("removeLot", lot), () -> fast.removeLot(lot), () -> naive.removeLot(lot));
    }

    void undo() {
        both("undo()", fast::undo, naive::undo);
    }

    void save(int slot) {
        both(call("save", slot), Check.done(() -> fast.save(slot)), Check.done(() -> naive.save(slot)));
    }

    void restore(int slot) {
        both(call("restore", slot), Check.done(() -> fast.restore(slot)), Check.done(() -> naive.restore(slot)));
    }

    void differences(int slot) {
        both(call("differences", slot), () -> fast.differences(slot), () -> naive.differences(slot));
    }
}
