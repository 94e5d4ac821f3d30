import java.util.Random;

/**
 * Long runs of calls on patterns that can mostly be knitted, on KnitGrader and on NaiveGrader: texts are read anew, tables,
 * gauge and lots are changed, changes are undone, states are saved and restored, and each time it is looked at what comes
 * of it. Lots are mostly just enough, or just too few, for some of the pieces.
 */
public final class LongRunsTest {
    private static final int RUNS = 500;
    /** A text and what is looked at behind it. */
    private static final int CALLS_OF_A_TEXT = 130;
    private static final int CALLS_OF_A_STEP = 40;

    private final Random random;
    private final Pair pair = new Pair();
    private final NaiveGrader told = pair.naive;

    private LongRunsTest(long seed) {
        random = new Random(seed);
    }

    public static void main(String[] args) {
        for (int run = 0; run < RUNS && Check.wrongs() < 5; run++) {
            new LongRunsTest(run).run();
        }
        if (args.length > 0) {
            Pair.seen().forEach((what, times) -> System.out.println(what + " " + times));
        }
        Check.end("LongRunsTest");
    }

    private int from(int least, int most) {
        return least + random.nextInt(most - least + 1);
    }

    private boolean chance(int percent) {
        return random.nextInt(100) < percent;
    }

    /** One of so many things; now and then the one behind the last, or the one before the first. */
    private int one(int count) {
        return chance(98) && count > 0 ? from(0, count - 1) : chance(50) ? count : -1;
    }

    private int size() {
        return one(told.count(0));
    }

    private int piece() {
        return one(told.count(3));
    }

    private boolean isThere(int size, int piece) {
        return size >= 0 && size < told.count(0) && piece >= 0 && piece < told.count(3);
    }

    private boolean hasCallsFor(int calls) {
        return pair.calls() + calls <= Pair.MOST_CALLS && Check.wrongs() < 5;
    }

    private void run() {
        while (hasCallsFor(CALLS_OF_A_TEXT)) {
            readAnew();
            for (int steps = from(10, 60); steps > 0 && hasCallsFor(CALLS_OF_A_STEP); steps--) {
                step();
            }
            if (hasCallsFor(CALLS_OF_A_TEXT) && chance(60)) {
                readWrong();
                for (int steps = from(3, 10); steps > 0 && hasCallsFor(CALLS_OF_A_STEP); steps--) {
                    step();
                }
            }
        }
        while (hasCallsFor(CALLS_OF_A_STEP)) {
            step();
        }
    }

    private void readAnew() {
        pair.loadText(SoundText.of(random));
        pair.errors();
        for (int what = 0; what <= 8; what++) {
            pair.count(what);
        }
        lookAtTold();
    }

    /** A text with one sign more, less or other than it should have, or with a statement too often; mostly it leaves all as it was. */
    private void readWrong() {
        StringBuilder text = new StringBuilder(SoundText.of(random));
        int at = from(0, text.length() - 1);
        switch (from(0, 4)) {
            case 0:
                text.setLength(at);
                break;
            case 1:
                text.deleteCharAt(at);
                break;
            case 2:
                text.setCharAt(at, "akyz059; \nA".charAt(from(0, 10)));
                break;
            default:
                repeatStatement(text, at);
                break;
        }
        pair.loadText(text.toString());
        pair.errors();
        pair.count(8);
        pair.differences(0);
        pair.differences(1);
    }

    /** So there can be an 11th part or lot, or a name that another one has. */
    private void repeatStatement(StringBuilder text, int near) {
        int start = text.lastIndexOf(";", near - 1) + 1;
        int end = text.indexOf(";", near) + 1;
        text.insert(end, text.substring(start, end).repeat(from(1, 10)));
    }

    private void step() {
        int kind = from(0, 99);
        if (kind < 55) {
            change();
            look();
        } else if (kind < 65) {
            for (int times = chance(90) ? from(1, 3) : 9; times > 0; times--) {
                pair.undo();
            }
            look();
        } else if (kind < 77) {
            pair.save(from(0, 1));
        } else if (kind < 80) {
            pair.restore(from(0, 1));
            pair.count(8);
            look();
        } else if (kind < 93) {
            pair.differences(from(0, 1));
        } else if (kind < 97) {
            lookAtTold();
        } else {
            find();
        }
    }

    private void change() {
        switch (from(0, 6)) {
            case 0:
                pair.setGauge(told.count(5) + from(-2, 2), told.count(6) + from(-2, 2), told.count(7) + from(-1, 1));
                break;
            case 1:
                setValue();
                break;
            case 2:
                pair.grade(one(told.count(1)), from(0, 500), from(-30, 60));
                break;
            case 3:
                setEase();
                break;
            case 4:
                pair.removeLot(one(told.count(4)));
                break;
            default:
                addFittingLot();
                break;
        }
        pair.count(8);
    }

    private void setValue() {
        int measure = one(told.count(1));
        int size = size();
        boolean there = measure >= 0 && measure < told.count(1) && size >= 0 && size < told.count(0);
        pair.setValue(measure, size, there ? told.value(measure, size) + from(-20, 20) : 5);
    }

    private void setEase() {
        int piece = piece();
        int part = isThere(0, piece) ? one(told.parts(piece)) : 0;
        pair.setEase(piece, part, chance(98) ? from(-120, 120) : from(990, 1010));
    }

    /** A lot for what some pieces need of a color in a size; now and then with a meter less, or more, than they need. */
    private void addFittingLot() {
        int size = from(0, told.count(0) - 1);
        int color = from(0, 3);
        long need = 0;
        for (int tries = 0; tries < 8 && need == 0; tries++) {
            color = from(0, 3);
            for (int piece = 0; piece < told.count(3); piece++) {
                need += chance(60) ? told.need(size, piece, color) : 0;
            }
        }
        long meters = (need + 999) / 1000 + (chance(70) ? 0 : from(-1, 1));
        pair.addLot(color, (int) Math.min(meters, 10000));
    }

    private void look() {
        int size = size();
        int piece = piece();
        pair.possible();
        pair.lotsUsed(size);
        pair.failure(size, piece);
        pair.rows(size, piece);
        if (chance(50)) {
            return;
        }
        int color = from(0, 3);
        pair.need(size, piece, color);
        for (int other = 0; other < told.count(3); other++) {
            pair.dealt(size, other, color);
        }
        pair.extreme(size, piece, chance(50));
        pair.mean(size, piece);
        if (isThere(size, piece)) {
            lookAtRows(size, piece, told.rows(size, piece));
            lookAtPart(size, piece, one(told.parts(piece)));
        }
    }

    private void lookAtRows(int size, int piece, int rows) {
        for (int row : new int[] {0, rows - 1, rows, from(0, rows - 1), from(0, rows - 1)}) {
            pair.stitches(size, piece, row);
        }
        int row = from(0, rows - 1);
        pair.partAt(size, piece, row);
        pair.width(size, piece, row);
    }

    private void lookAtPart(int size, int piece, int part) {
        pair.partRows(size, piece, part);
        for (int index : new int[] {0, 1, from(0, 12)}) {
            pair.shaping(size, piece, part, index);
        }
        pair.part(piece, part, 3);
    }

    private void lookAtTold() {
        int measure = one(told.count(1));
        pair.value(measure, size());
        pair.isGraded(measure);
        pair.fits(measure, from(0, 500));
        int chart = one(told.count(2));
        pair.chart(chart, from(0, 2));
        pair.chartRow(chart, from(0, 3), chance(50));
        int piece = piece();
        pair.parts(piece);
        int part = isThere(0, piece) ? one(told.parts(piece)) : 0;
        for (int what = 0; what <= 8; what++) {
            pair.part(piece, part, what);
        }
        int lot = one(told.count(4));
        pair.lot(lot, 0);
        pair.lot(lot, 1);
    }

    /** Names that are mostly there have two letters; the text buffer is empty before and behind this. */
    private void find() {
        int what = from(0, 3);
        pair.append("smcp".charAt(what) << 24 | 'a' + from(0, 3) << 16, 0, 0, 0, 0);
        pair.truncate(2);
        pair.find(what);
        pair.truncate(0);
    }
}
