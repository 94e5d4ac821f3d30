import java.util.Random;

/** Many runs of calls, made from fixed seeds, on KnitGrader and on NaiveGrader: each answer must be the same. */
public final class RandomRunsTest {
    private static final int RUNS = 900;
    private static final String[] WORDS = {"gauge", "yarn", "sizes", "measure", "chart", "piece", "cast", "work", "shape",
        "end", "lot", "plus", "minus", "by", "and", "color", "over", "per", ";", "0", "1", "4", "30", "99", "3000", "3001",
        "9999", "12345", "00007", "k", "kyt", "tt", "hip", "abcdefgh", "abcdefghi", "kkkkkkkkkkkk", "kkkkkkkkkkkkk", "yyy", "A", "-"};

    private final Random random;
    private final Pair pair = new Pair();

    private RandomRunsTest(long seed) {
        random = new Random(seed);
    }

    public static void main(String[] args) {
        for (int run = 0; run < RUNS && Check.wrongs() < 5; run++) {
            new RandomRunsTest(run).run();
        }
        if (args.length > 0) {
            Pair.seen().forEach((what, times) -> System.out.println(what + " " + times));
        }
        Check.end("RandomRunsTest");
    }

    private int pick(int most) {
        return random.nextInt(most + 1);
    }

    private boolean chance(int percent) {
        return random.nextInt(100) < percent;
    }

    private int among(int... numbers) {
        return numbers[random.nextInt(numbers.length)];
    }

    private void run() {
        if (chance(90)) {
            loadText(chance(80) ? text() : spoilt(text()));
        }
        // A text takes at most 80 calls, another call at most 6.
        while (pair.calls() < Pair.MOST_CALLS - 86 && Check.wrongs() < 5) {
            if (chance(1)) {
                loadText(chance(70) ? text() : spoilt(text()));
            }
            call();
        }
    }

    private void loadText(String text) {
        pair.loadText(text);
        pair.errors();
    }

    private String name() {
        if (chance(3)) {
            return WORDS[random.nextInt(WORDS.length)];
        }
        StringBuilder name = new StringBuilder();
        int length = 1 + pick(chance(80) ? 2 : 7);
        for (int i = 0; i < length; i++) {
            name.append((char) ('a' + pick(25)));
        }
        return name.toString();
    }

    private String blank() {
        return chance(95) ? " " : chance(50) ? "\n" : "  ";
    }

    /** A text that is mostly right, and mostly of pieces that can be knitted. */
    private String text() {
        StringBuilder t = new StringBuilder();
        t.append("gauge").append(blank()).append(among(5, 10, 20, 20, 25, 33, 99)).append(' ').append(among(5, 20, 30, 30, 47, 99));
        t.append(" yarn ").append(among(1, 5, 10, 10, 17, 99)).append(";sizes");
        int sizes = 1 + pick(chance(90) ? 3 : 6);
        for (int i = 0; i < sizes; i++) {
            t.append(' ').append(chance(97) ? "s" + (char) ('a' + i) : name());
        }
        t.append(';').append(chance(10) ? "\n" : "");
        int measures = chance(90) ? 1 + pick(4) : pick(8);
        for (int i = 0; i < measures; i++) {
            t.append("measure ").append(chance(97) ? "m" + (char) ('a' + i) : name());
            int first = among(0, 30, 100, 200, 300, 400, chance(5) ? 3000 : 350, pick(500));
            int step = among(0, 5, 10, 20, 50, -10);
            for (int k = 0; k < sizes; k++) {
                t.append(' ').append(Math.max(0, Math.min(3000, first + k * step + (chance(10) ? pick(20) : 0))));
            }
            t.append(';');
        }
        int charts = chance(70) ? pick(2) : pick(4);
        for (int i = 0; i < charts; i++) {
            t.append("chart ").append(chance(97) ? "c" + (char) ('a' + i) : name()).append(chartRows()).append(';');
        }
        int pieces = chance(80) ? 1 + pick(2) : pick(6);
        for (int i = 0; i < pieces; i++) {
            piece(t, i, measures, charts);
        }
        int lots = pick(chance(70) ? 4 : 10);
        for (int i = 0; i < lots; i++) {
            t.append("lot ").append(pick(chance(70) ? 1 : 3)).append(' ').append(meters()).append(';');
        }
        return t.toString();
    }

    private int meters() {
        return 1 + pick(among(20, 100, 300, 1000, 9998));
    }

    /** Rows that fit one another: each takes what the row before it makes, and the last one closes the chart. */
    private String chartRows() {
        StringBuilder t = new StringBuilder();
        int rows = chance(90) ? 1 + pick(4) : 1 + pick(8);
        int first = 1 + pick(chance(80) ? 4 : 10);
        int takes = first;
        for (int i = 0; i < rows; i++) {
            int makes = i == rows - 1 ? first : Math.max(takes / 3 + 1, Math.min(12, takes + pick(4) - 2));
            t.append(' ').append(chance(97) ? rowOf(takes, makes) : name());
            takes = makes;
        }
        return t.toString();
    }

    private String rowOf(int takes, int makes) {
        StringBuilder row = new StringBuilder();
        int left = takes;
        for (int i = makes; i > 0; i--) {
            int most = Math.min(3, left);
            int least = Math.max(0, left - 3 * (i - 1));
            int taken = Math.min(3, least + (most > least ? pick(most - least) : 0));
            row.append(taken == 0 ? 'y' : taken == 1 ? (chance(50) ? 'k' : 'p') : taken == 2 ? 't' : 's');
            left -= taken;
        }
        return row.toString();
    }

    private String measure(int measures) {
        return chance(98) && measures > 0 ? "m" + (char) ('a' + pick(measures - 1)) : name();
    }

    private String width(int measures) {
        StringBuilder t = new StringBuilder(measure(measures));
        if (chance(30)) {
            t.append(chance(50) ? " plus " : " minus ").append(pick(chance(80) ? 60 : 999));
        }
        if (chance(50)) {
            int multiple = chance(90) ? 1 + pick(5) : 1 + pick(29);
            t.append(" by ").append(multiple);
            if (chance(50)) {
                t.append(" and ").append(chance(60) ? 0 : pick(multiple - 1));
            }
        }
        return t.toString();
    }

    private int color() {
        return pick(chance(70) ? 1 : 3);
    }

    private void piece(StringBuilder t, int number, int measures, int charts) {
        t.append("piece ").append(chance(97) ? "p" + (char) ('a' + number) : name()).append(";cast ").append(width(measures));
        t.append(" color ").append(color()).append(';');
        int parts = pick(chance(80) ? 3 : 10);
        for (int i = 0; i < parts; i++) {
            if (chance(55)) {
                t.append("work ").append(measure(measures)).append(" color ").append(color());
                if (charts > 0 && chance(40)) {
                    t.append(" chart ").append(chance(97) ? "c" + (char) ('a' + pick(charts - 1)) : name());
                }
            } else {
                t.append("shape ").append(chance(60) ? measure(measures) + " plus " + pick(90) : width(measures)).append(" over ").append(measure(measures)).append(" per ");
                t.append(chance(60) ? 1 : 1 + pick(3)).append(" color ").append(color());
            }
            t.append(';');
        }
        t.append("end;").append(chance(10) ? "\n" : "");
    }

    private String spoilt(String text) {
        StringBuilder t = new StringBuilder(text);
        int times = 1 + pick(1);
        for (int i = 0; i < times; i++) {
            int at = pick(t.length() - 1);
            switch (pick(8)) {
                case 5:
                case 6:
                    swapNumber(t, at);
                    break;
                case 0:
                    t.setLength(at + 1);
                    break;
                case 1:
                    t.deleteCharAt(at);
                    break;
                case 2:
                    t.setCharAt(at, (char) pick(255));
                    break;
                case 3:
                    t.insert(at, (char) among('a', '0', '9', ' ', ';', '\n', 0, 'Z', 200));
                    break;
                default:
                    swapToken(t, at);
                    break;
            }
        }
        return t.toString();
    }

    private void swapNumber(StringBuilder t, int near) {
        int start = near;
        while (start < t.length() && !Character.isDigit(t.charAt(start))) {
            start++;
        }
        int end = start;
        while (end < t.length() && Character.isDigit(t.charAt(end))) {
            end++;
        }
        t.replace(start, end, String.valueOf(among(0, 1, 3, 4, 5, 30, 31, 99, 100, 999, 1000, 3000, 3001, 9999, 10000)));
    }

    private void swapToken(StringBuilder t, int near) {
        int start = near;
        while (start > 0 && Character.isLetterOrDigit(t.charAt(start - 1)) && t.charAt(start) < 128) {
            start--;
        }
        int end = start + 1;
        while (end < t.length() && Character.isLetterOrDigit(t.charAt(end))) {
            end++;
        }
        String token = WORDS[random.nextInt(WORDS.length)];
        if (chance(40)) {
            t.insert(start, token + " ");
        } else {
            t.replace(start, end, chance(70) ? token : "");
        }
    }

    /** A number of which mostly some are there; now and then one just or far outside. */
    private int number(int count) {
        if (chance(3)) {
            return among(-1, count, count + 1, Integer.MIN_VALUE, Integer.MAX_VALUE);
        }
        return count > 0 ? pick(count - 1) : 0;
    }

    private int size() {
        return number(pair.naive.count(0));
    }

    private int measure() {
        return number(pair.naive.count(1));
    }

    private int piece() {
        return number(pair.naive.count(3));
    }

    private int part(int piece) {
        return number(piece >= 0 && piece < pair.naive.count(3) ? pair.naive.parts(piece) : 10);
    }

    private int row(int size, int piece) {
        boolean there = size >= 0 && size < pair.naive.count(0) && piece >= 0 && piece < pair.naive.count(3);
        int rows = there ? pair.naive.rows(size, piece) : 5;
        return chance(20) ? rows - 1 : number(rows);
    }

    private int slot() {
        return number(2);
    }

    private void call() {
        switch (pick(9)) {
            case 0:
                tableCall();
                break;
            case 1:
                tableChange();
                break;
            case 2:
            case 3:
                knittingCall();
                break;
            case 4:
                rowCall();
                break;
            case 5:
                lotCall();
                break;
            case 6:
                lotChange();
                break;
            case 7:
                stateCall();
                break;
            case 8:
                textCall();
                break;
            default:
                chartCall();
                break;
        }
    }

    private void tableCall() {
        int m = measure();
        int s = size();
        int what = number(9);
        int mm = chance(5) ? among(-1, 3001, Integer.MAX_VALUE, Integer.MIN_VALUE) : among(0, 3000, pick(3000), pick(500));
        switch (pick(3)) {
            case 0:
                pair.count(what);
                break;
            case 1:
                pair.value(m, s);
                break;
            case 2:
                pair.isGraded(m);
                break;
            default:
                pair.fits(m, mm);
                break;
        }
    }

    private void chartCall() {
        int c = number(pair.naive.count(2));
        int row = number(c >= 0 && c < pair.naive.count(2) ? pair.naive.chart(c, 0) : 3);
        int p = piece();
        int part = part(p);
        int what = number(9);
        int three = number(3);
        boolean makes = chance(50);
        switch (pick(3)) {
            case 0:
                pair.chart(c, three);
                break;
            case 1:
                pair.chartRow(c, row, makes);
                break;
            case 2:
                pair.part(p, part, what);
                break;
            default:
                pair.parts(p);
                break;
        }
    }

    private void knittingCall() {
        int s = size();
        int p = piece();
        int part = part(p);
        boolean greatest = chance(50);
        switch (pick(5)) {
            case 0:
                pair.failure(s, p);
                break;
            case 1:
                pair.rows(s, p);
                break;
            case 2:
                pair.partRows(s, p, part);
                break;
            case 3:
                pair.extreme(s, p, greatest);
                break;
            case 4:
                pair.mean(s, p);
                break;
            default:
                shapingCall(s, p, chance(80) ? shape(p, part) : part);
                break;
        }
    }

    /** A shape of the piece, if it has one; else the part itself. */
    private int shape(int piece, int part) {
        int parts = piece >= 0 && piece < pair.naive.count(3) ? pair.naive.parts(piece) : 0;
        int first = pick(9);
        for (int i = 0; i < parts; i++) {
            if (pair.naive.part(piece, (first + i) % parts, 0) == 2) {
                return (first + i) % parts;
            }
        }
        return part;
    }

    private void shapingCall(int s, int p, int part) {
        int index = among(0, 0, 1, 2, 3, pick(30), -1);
        pair.shaping(s, p, part, index);
    }

    private void rowCall() {
        int s = size();
        int p = piece();
        int row = row(s, p);
        switch (pick(2)) {
            case 0:
                pair.stitches(s, p, row);
                break;
            case 1:
                pair.partAt(s, p, row);
                break;
            default:
                pair.width(s, p, row);
                break;
        }
    }

    private void lotCall() {
        int s = size();
        int p = piece();
        int color = number(4);
        int lot = number(pair.naive.count(4));
        int two = number(2);
        switch (pick(4)) {
            case 0:
                pair.need(s, p, color);
                break;
            case 1:
                pair.lot(lot, two);
                break;
            case 2:
                pair.dealt(s, p, color);
                break;
            case 3:
                pair.lotsUsed(s);
                break;
            default:
                pair.possible();
                break;
        }
    }

    private void tableChange() {
        int m = measure();
        int s = size();
        int p = piece();
        int part = part(p);
        int value = chance(5) ? among(-1, 3001) : among(0, pick(500), pick(3000), 3000);
        int ease = chance(5) ? among(-1000, 1000) : among(0, pick(60), -pick(60), pick(999), -pick(999));
        int stitches = chance(5) ? among(4, 100) : among(20, 5, 99, 5 + pick(94));
        int rows = chance(5) ? among(4, 100) : among(30, 5, 99, 5 + pick(94));
        int yarn = chance(5) ? among(0, 100) : among(10, 1, 99, 1 + pick(98));
        int step = among(0, 10, 100, -10, 1000, pick(3000), -pick(3000), Integer.MAX_VALUE, Integer.MIN_VALUE);
        switch (pick(3)) {
            case 0:
                pair.setGauge(stitches, rows, yarn);
                break;
            case 1:
                pair.setValue(m, s, value);
                break;
            case 2:
                pair.grade(m, value, step);
                break;
            default:
                pair.setEase(p, part, ease);
                break;
        }
    }

    private void lotChange() {
        int color = chance(3) ? number(4) : color();
        int meters = chance(5) ? among(0, 10000, -1) : meters();
        int lot = number(pair.naive.count(4));
        if (chance(75)) {
            pair.addLot(color, meters);
        } else {
            pair.removeLot(lot);
        }
    }

    private void stateCall() {
        int slot = slot();
        switch (pick(6)) {
            case 0:
            case 1:
                pair.undo();
                break;
            case 2:
                pair.save(slot);
                break;
            case 3:
                pair.restore(slot);
                break;
            default:
                pair.differences(slot);
                break;
        }
    }

    private void textCall() {
        if (chance(10)) {
            pair.errors();
            return;
        }
        String found = chance(60) ? String.valueOf((char) among('s', 'm', 'c', 'p')) + (char) ('a' + pick(3)) : name();
        int length = found.length() + (chance(5) ? 1 : 0);
        int first = (found.charAt(0) << 24) | (found.length() > 1 ? found.charAt(1) << 16 : 0);
        int what = chance(20) ? number(4) : Math.max(0, "smcp".indexOf(found.charAt(0)));
        if (chance(30)) {
            pair.append(first, 1, 2, 3, 4);
        }
        pair.truncate(0);
        pair.append(first, -1, 2, 3, 4);
        pair.truncate(length);
        pair.find(what);
        if (chance(20)) {
            pair.load();
        }
    }
}
