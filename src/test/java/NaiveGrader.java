import java.util.ArrayList;
import java.util.Arrays;
import java.util.HashMap;
import java.util.List;
import java.util.Map;
import java.util.NoSuchElementException;

/**
 * The document once more, in the plainest way and with the Java library: each row is knitted, each number
 * is searched, each dealing is tried. RandomRunsTest compares KnitGrader with it.
 */
final class NaiveGrader {
    static final class Lot {
        int color;
        int meters;
    }

    static final class Part {
        String kind;
        int color;
        int widthMeasure = -1;
        int ease;
        int multiple;
        int remainder;
        int lengthMeasure = -1;
        int per;
        int chart = -1;

        Part copy() {
            Part p = new Part();
            p.kind = kind;
            p.color = color;
            p.widthMeasure = widthMeasure;
            p.ease = ease;
            p.multiple = multiple;
            p.remainder = remainder;
            p.lengthMeasure = lengthMeasure;
            p.per = per;
            p.chart = chart;
            return p;
        }
    }

    static final class State {
        int stitches;
        int rows;
        int yarn;
        List<String> sizes = new ArrayList<>();
        List<String> measures = new ArrayList<>();
        List<List<Integer>> values = new ArrayList<>();
        List<String> charts = new ArrayList<>();
        List<List<String>> chartRows = new ArrayList<>();
        List<String> pieces = new ArrayList<>();
        List<List<Part>> parts = new ArrayList<>();
        List<Lot> lots = new ArrayList<>();

        State copy() {
            State s = new State();
            s.stitches = stitches;
            s.rows = rows;
            s.yarn = yarn;
            s.sizes.addAll(sizes);
            s.measures.addAll(measures);
            for (List<Integer> row : values) {
                s.values.add(new ArrayList<>(row));
            }
            s.charts.addAll(charts);
            s.chartRows.addAll(chartRows);
            s.pieces.addAll(pieces);
            for (List<Part> piece : parts) {
                List<Part> copied = new ArrayList<>();
                for (Part part : piece) {
                    copied.add(part.copy());
                }
                s.parts.add(copied);
            }
            for (Lot lot : lots) {
                Lot l = new Lot();
                l.color = lot.color;
                l.meters = lot.meters;
                s.lots.add(l);
            }
            return s;
        }
    }

    static final class Fault extends RuntimeException {
        private static final long serialVersionUID = 1L;
        final int code;
        final int position;

        Fault(int code, int position) {
            this.code = code;
            this.position = position;
        }
    }

    /** A text that is taken from its left end, token by token. */
    private static final class Taker {
        static final List<String> NO_NAMES = List.of("plus", "minus", "by", "color", "chart", "over", "per");
        final String text;
        int at = 0;
        final State s = new State();

        Taker(String text) {
            this.text = text;
        }

        String peek() {
            while (at < text.length() && (text.charAt(at) == ' ' || text.charAt(at) == '\n')) {
                at++;
            }
            if (at == text.length()) {
                return "";
            }
            int end = at;
            while (end < text.length() && text.charAt(end) >= 'a' && text.charAt(end) <= 'z') {
                end++;
            }
            if (end == at) {
                while (end < text.length() && text.charAt(end) >= '0' && text.charAt(end) <= '9') {
                    end++;
                }
            }
            return text.substring(at, Math.max(end, at + 1));
        }

        Fault fault(int code) {
            peek();
            return new Fault(code, at);
        }

        void take(String token) {
            if (!peek().equals(token)) {
                throw fault(1);
            }
            at += token.length();
        }

        boolean takes(String token) {
            boolean is = peek().equals(token);
            if (is) {
                take(token);
            }
            return is;
        }

        int number(int least, int most) {
            String token = peek();
            if (!token.matches("[0-9]{1,4}")) {
                throw fault(1);
            }
            int number = Integer.parseInt(token);
            if (number < least || number > most) {
                throw fault(2);
            }
            take(token);
            return number;
        }

        String name() {
            String token = peek();
            if (!token.matches("[a-z]{1,8}") || NO_NAMES.contains(token)) {
                throw fault(1);
            }
            return token;
        }

        void define(List<String> names, int most) {
            String name = name();
            if (names.contains(name)) {
                throw fault(3);
            }
            if (names.size() == most) {
                throw fault(5);
            }
            names.add(name);
            take(name);
        }

        int known(List<String> names) {
            String name = name();
            if (!names.contains(name)) {
                throw fault(4);
            }
            take(name);
            return names.indexOf(name);
        }

        void start(String word, int size, int most) {
            if (peek().equals(word) && size == most) {
                throw fault(5);
            }
            take(word);
        }

        State all() {
            take("gauge");
            s.stitches = number(5, 99);
            s.rows = number(5, 99);
            take("yarn");
            s.yarn = number(1, 99);
            take(";");
            take("sizes");
            do {
                define(s.sizes, 6);
            } while (peek().matches("[a-z]+"));
            take(";");
            while (peek().equals("measure")) {
                measure();
            }
            while (peek().equals("chart")) {
                chart();
            }
            while (peek().equals("piece")) {
                piece();
            }
            while (peek().equals("lot")) {
                start("lot", s.lots.size(), 10);
                Lot lot = new Lot();
                lot.color = number(0, 3);
                lot.meters = number(1, 9999);
                s.lots.add(lot);
                take(";");
            }
            if (!peek().isEmpty()) {
                throw fault(1);
            }
            return s;
        }

        void measure() {
            start("measure", s.measures.size(), 8);
            define(s.measures, 8);
            List<Integer> values = new ArrayList<>();
            for (int i = 0; i < s.sizes.size(); i++) {
                values.add(number(0, 3000));
            }
            s.values.add(values);
            take(";");
        }

        void chart() {
            start("chart", s.charts.size(), 4);
            define(s.charts, 4);
            List<String> rows = new ArrayList<>();
            do {
                String row = peek();
                if (!row.matches("[kpyts]{1,12}")) {
                    throw fault(1);
                }
                if (rows.size() == 8) {
                    throw fault(5);
                }
                if (!rows.isEmpty() && taken(row) != made(rows.get(rows.size() - 1))) {
                    throw fault(6);
                }
                rows.add(row);
                take(row);
            } while (peek().matches("[a-z]+"));
            if (peek().equals(";") && made(rows.get(rows.size() - 1)) != taken(rows.get(0))) {
                throw fault(6);
            }
            take(";");
            s.chartRows.add(rows);
        }

        void piece() {
            start("piece", s.pieces.size(), 6);
            define(s.pieces, 6);
            take(";");
            List<Part> parts = new ArrayList<>();
            s.parts.add(parts);
            Part cast = new Part();
            cast.kind = "cast";
            take("cast");
            width(cast);
            color(cast);
            take(";");
            parts.add(cast);
            while (peek().equals("work") || peek().equals("shape")) {
                Part part = new Part();
                part.kind = peek();
                start(part.kind, parts.size(), 10);
                if (part.kind.equals("work")) {
                    part.lengthMeasure = known(s.measures);
                    color(part);
                    if (takes("chart")) {
                        part.chart = known(s.charts);
                    }
                } else {
                    width(part);
                    take("over");
                    part.lengthMeasure = known(s.measures);
                    take("per");
                    part.per = number(1, 4);
                    color(part);
                }
                take(";");
                parts.add(part);
            }
            take("end");
            take(";");
        }

        void color(Part part) {
            take("color");
            part.color = number(0, 3);
        }

        void width(Part part) {
            part.widthMeasure = known(s.measures);
            if (takes("plus")) {
                part.ease = number(0, 999);
            } else if (takes("minus")) {
                part.ease = -number(0, 999);
            }
            part.multiple = 1;
            if (takes("by")) {
                part.multiple = number(1, 30);
                if (takes("and")) {
                    part.remainder = number(0, part.multiple - 1);
                }
            }
        }
    }

    static int taken(String row) {
        int sum = 0;
        for (char letter : row.toCharArray()) {
            sum += Map.of('k', 1, 'p', 1, 'y', 0, 't', 2, 's', 3).get(letter);
        }
        return sum;
    }

    static int made(String row) {
        return row.length();
    }

    /** A piece in a size, row by row. */
    private static final class Knitting {
        final List<Integer> behind = new ArrayList<>();
        final List<Integer> partOf = new ArrayList<>();
        final List<Integer> partRows = new ArrayList<>();
        final List<List<Integer>> shapings = new ArrayList<>();
        int failure = 0;
    }

    private static final String FIRST = "gauge 20 30 yarn 10;sizes s m;measure hip 400 450;measure long 100 120;"
        + "piece back;cast hip color 0;work long color 0;end;lot 0 100;";

    private StringBuilder buffer = new StringBuilder();
    private State s = new Taker(FIRST).all();
    private final List<State> undos = new ArrayList<>();
    private final State[] slots = new State[2];
    private int code = 0;
    private int position = -1;
    private final Map<Integer, int[]> dealings = new HashMap<>();
    private final Map<Integer, Knitting> knittings = new HashMap<>();

    private static void index(int i, int size) {
        if (i < 0 || i >= size) {
            throw new IndexOutOfBoundsException();
        }
    }

    private static void argument(int i, int least, int most) {
        if (i < least || i > most) {
            throw new IllegalArgumentException();
        }
    }

    private void forget() {
        dealings.clear();
        knittings.clear();
    }

    private void changing() {
        forget();
        undos.add(s.copy());
        if (undos.size() > 8) {
            undos.remove(0);
        }
    }

    private static int count(State s, Part part, int size) {
        int w = Math.max(0, s.values.get(part.widthMeasure).get(size) + part.ease);
        int wanted = Math.floorDiv(w * s.stitches + 50, 100);
        for (int distance = 0;; distance++) {
            for (int candidate : new int[] {wanted + distance, wanted - distance}) {
                if (candidate >= 1 && candidate % part.multiple == part.remainder) {
                    return candidate;
                }
            }
        }
    }

    private static int length(State s, Part part, int size) {
        int r = Math.floorDiv(s.values.get(part.lengthMeasure).get(size) * s.rows + 50, 100);
        if (part.chart < 0) {
            return r;
        }
        int c = s.chartRows.get(part.chart).size();
        for (int distance = 0;; distance++) {
            for (int candidate : new int[] {r + distance, r - distance}) {
                if (candidate >= 0 && candidate % c == 0) {
                    return candidate;
                }
            }
        }
    }

    private static Knitting knit(State s, int size, int piece) {
        Knitting k = new Knitting();
        int now = 0;
        List<Part> parts = s.parts.get(piece);
        for (int p = 0; p < parts.size(); p++) {
            Part part = parts.get(p);
            List<Integer> shaped = new ArrayList<>();
            int rows = 1;
            if (part.kind.equals("cast")) {
                now = count(s, part, size);
                k.behind.add(now);
            } else if (part.kind.equals("work")) {
                rows = length(s, part, size);
                int ahead = now;
                if (part.chart >= 0) {
                    int width = taken(s.chartRows.get(part.chart).get(0));
                    if (width == 0 || now % width != 0) {
                        k.failure = 10 * p + 3;
                        return k;
                    }
                }
                for (int i = 0; i < rows; i++) {
                    if (part.chart >= 0) {
                        List<String> chart = s.chartRows.get(part.chart);
                        now = ahead / taken(chart.get(0)) * made(chart.get(i % chart.size()));
                    }
                    k.behind.add(now);
                }
            } else {
                rows = length(s, part, size);
                int goal = count(s, part, size);
                int difference = goal > now ? goal - now : now - goal;
                if (difference % part.per != 0) {
                    k.failure = 10 * p + 1;
                    return k;
                }
                int n = difference / part.per;
                if (n > rows) {
                    k.failure = 10 * p + 2;
                    return k;
                }
                int start = k.behind.size();
                for (int i = 1; i <= n; i++) {
                    shaped.add(start + (int) ((long) i * rows / n) - 1);
                }
                int next = 0;
                for (int i = 0; i < rows; i++) {
                    if (next < n && shaped.get(next) == start + i) {
                        next++;
                        now += goal > now ? part.per : -part.per;
                    }
                    k.behind.add(now);
                }
                if (now != goal) {
                    throw new AssertionError("a shape misses its goal");
                }
            }
            k.shapings.add(shaped);
            k.partRows.add(rows);
            for (int i = 0; i < rows; i++) {
                k.partOf.add(p);
            }
        }
        return k;
    }

    private Knitting knitting(int size, int piece) {
        index(size, s.sizes.size());
        index(piece, s.pieces.size());
        return knittings.computeIfAbsent(size * 10 + piece, key -> knit(s, size, piece));
    }

    private Knitting partKnitting(int size, int piece, int part) {
        Knitting k = knitting(size, piece);
        index(part, s.parts.get(piece).size());
        if (k.failure != 0 && k.failure / 10 <= part) {
            throw new IllegalStateException();
        }
        return k;
    }

    private Knitting rowKnitting(int size, int piece, int row) {
        Knitting k = knitting(size, piece);
        index(row, k.behind.size());
        return k;
    }

    private long needOf(Knitting k, int piece, int color) {
        long sum = 0;
        for (int row = 0; row < k.behind.size(); row++) {
            if (s.parts.get(piece).get(k.partOf.get(row)).color == color) {
                sum += (long) k.behind.get(row) * s.yarn;
            }
        }
        return sum;
    }

    private boolean someFails(int size) {
        for (int piece = 0; piece < s.pieces.size(); piece++) {
            if (knitting(size, piece).failure != 0) {
                return true;
            }
        }
        return false;
    }

    /** The lots by piece (NONE for a piece that does not need the color), or nothing if it cannot be. */
    private int[] dealing(int size, int color) {
        if (!dealings.containsKey(size * 10 + color)) {
            int pieces = s.pieces.size();
            long[] needs = new long[pieces];
            for (int piece = 0; piece < pieces; piece++) {
                needs[piece] = needOf(knitting(size, piece), piece, color);
            }
            long[] left = new long[s.lots.size()];
            for (int lot = 0; lot < left.length; lot++) {
                left[lot] = s.lots.get(lot).color == color ? 1000L * s.lots.get(lot).meters : -1;
            }
            int[][] best = new int[1][];
            int[] now = new int[pieces];
            Arrays.fill(now, -1);
            deal(needs, left, now, 0, best);
            dealings.put(size * 10 + color, best[0]);
        }
        return dealings.get(size * 10 + color);
    }

    private static int different(int[] lots) {
        return (int) Arrays.stream(lots).filter(lot -> lot >= 0).distinct().count();
    }

    private static void deal(long[] needs, long[] left, int[] now, int piece, int[][] best) {
        if (best[0] != null && different(now) >= different(best[0])) {
            // What comes later in the order has to be better to count; used lots never become fewer.
            return;
        }
        if (piece == needs.length) {
            best[0] = now.clone();
            return;
        }
        if (needs[piece] == 0) {
            deal(needs, left, now, piece + 1, best);
            return;
        }
        for (int lot = 0; lot < left.length; lot++) {
            if (left[lot] >= needs[piece]) {
                left[lot] -= needs[piece];
                now[piece] = lot;
                deal(needs, left, now, piece + 1, best);
                now[piece] = -1;
                left[lot] += needs[piece];
            }
        }
    }

    int append(int a, int b, int c, int d, int e) {
        if (buffer.length() + 20 > 1500) {
            throw new IllegalStateException();
        }
        for (int four : new int[] {a, b, c, d, e}) {
            for (byte one : java.nio.ByteBuffer.allocate(4).putInt(four).array()) {
                buffer.append((char) (one & 255));
            }
        }
        return buffer.length();
    }

    int truncate(int length) {
        if (length < 0 || length > buffer.length()) {
            throw new IndexOutOfBoundsException();
        }
        buffer.setLength(length);
        return length;
    }

    int load() {
        String text = buffer.toString();
        buffer = new StringBuilder();
        try {
            s = new Taker(text).all();
        } catch (Fault fault) {
            code = fault.code;
            position = fault.position;
            throw new IllegalArgumentException();
        }
        code = 0;
        position = -1;
        forget();
        undos.clear();
        slots[0] = null;
        slots[1] = null;
        return s.pieces.size();
    }

    int errorCode() {
        return code;
    }

    int errorPosition() {
        return position;
    }

    int find(int what) {
        argument(what, 0, 3);
        String name = buffer.toString();
        buffer = new StringBuilder();
        int found = List.of(s.sizes, s.measures, s.charts, s.pieces).get(what).indexOf(name);
        if (found < 0) {
            throw new NoSuchElementException();
        }
        return found;
    }

    int count(int what) {
        argument(what, 0, 8);
        return new int[] {s.sizes.size(), s.measures.size(), s.charts.size(), s.pieces.size(), s.lots.size(),
            s.stitches, s.rows, s.yarn, undos.size()}[what];
    }

    int value(int measure, int size) {
        index(measure, s.measures.size());
        index(size, s.sizes.size());
        return s.values.get(measure).get(size);
    }

    boolean isGraded(int measure) {
        index(measure, s.measures.size());
        List<Integer> sorted = new ArrayList<>(s.values.get(measure));
        sorted.sort(null);
        return sorted.equals(s.values.get(measure));
    }

    int fits(int measure, int millimeters) {
        index(measure, s.measures.size());
        argument(millimeters, 0, 3000);
        for (int distance = 0;; distance++) {
            for (int size = 0; size < s.sizes.size(); size++) {
                if (Math.abs(s.values.get(measure).get(size) - millimeters) == distance) {
                    return size;
                }
            }
        }
    }

    int chart(int chart, int what) {
        index(chart, s.charts.size());
        argument(what, 0, 2);
        List<String> rows = s.chartRows.get(chart);
        return new int[] {rows.size(), taken(rows.get(0)), rows.stream().mapToInt(NaiveGrader::made).max().getAsInt()}[what];
    }

    int chartRow(int chart, int row, boolean makes) {
        index(chart, s.charts.size());
        index(row, s.chartRows.get(chart).size());
        String letters = s.chartRows.get(chart).get(row);
        return makes ? made(letters) : taken(letters);
    }

    int part(int piece, int part, int what) {
        index(piece, s.pieces.size());
        index(part, s.parts.get(piece).size());
        argument(what, 0, 8);
        Part p = s.parts.get(piece).get(part);
        return new int[] {List.of("cast", "work", "shape").indexOf(p.kind), p.color, p.widthMeasure, p.ease, p.multiple,
            p.remainder, p.lengthMeasure, p.per, p.chart}[what];
    }

    int parts(int piece) {
        index(piece, s.pieces.size());
        return s.parts.get(piece).size();
    }

    int failure(int size, int piece) {
        return knitting(size, piece).failure;
    }

    int rows(int size, int piece) {
        return knitting(size, piece).behind.size();
    }

    int partRows(int size, int piece, int part) {
        return partKnitting(size, piece, part).partRows.get(part);
    }

    int stitches(int size, int piece, int row) {
        return rowKnitting(size, piece, row).behind.get(row);
    }

    int partAt(int size, int piece, int row) {
        return rowKnitting(size, piece, row).partOf.get(row);
    }

    int extreme(int size, int piece, boolean greatest) {
        Knitting k = knitting(size, piece);
        return greatest ? java.util.Collections.max(k.behind) : java.util.Collections.min(k.behind);
    }

    int shaping(int size, int piece, int part, int index) {
        List<Integer> shaped = partKnitting(size, piece, part).shapings.get(part);
        if (index < 0 || index >= shaped.size()) {
            throw new NoSuchElementException();
        }
        return shaped.get(index);
    }

    float width(int size, int piece, int row) {
        return rowKnitting(size, piece, row).behind.get(row) * 100.0f / s.stitches;
    }

    double mean(int size, int piece) {
        Knitting k = knitting(size, piece);
        long sum = 0;
        for (int behind : k.behind) {
            sum += behind;
        }
        return (double) sum / k.behind.size();
    }

    long need(int size, int piece, int color) {
        Knitting k = knitting(size, piece);
        argument(color, 0, 3);
        return needOf(k, piece, color);
    }

    int lot(int lot, int what) {
        index(lot, s.lots.size());
        argument(what, 0, 1);
        return what == 0 ? s.lots.get(lot).color : s.lots.get(lot).meters;
    }

    int dealt(int size, int piece, int color) {
        knitting(size, piece);
        argument(color, 0, 3);
        if (someFails(size)) {
            throw new IllegalStateException();
        }
        int[] dealing = dealing(size, color);
        if (dealing == null) {
            throw new NoSuchElementException();
        }
        return dealing[piece];
    }

    int lotsUsed(int size) {
        index(size, s.sizes.size());
        if (someFails(size)) {
            throw new IllegalStateException();
        }
        int used = 0;
        for (int color = 0; color < 4; color++) {
            int[] dealing = dealing(size, color);
            if (dealing == null) {
                throw new NoSuchElementException();
            }
            used += different(dealing);
        }
        return used;
    }

    int possible() {
        int set = 0;
        for (int size = 0; size < s.sizes.size(); size++) {
            boolean possible = !someFails(size);
            for (int color = 0; color < 4 && possible; color++) {
                possible = dealing(size, color) != null;
            }
            set += possible ? 1 << size : 0;
        }
        return set;
    }

    int setGauge(int stitches, int rows, int yarn) {
        argument(stitches, 5, 99);
        argument(rows, 5, 99);
        argument(yarn, 1, 99);
        changing();
        s.stitches = stitches;
        s.rows = rows;
        s.yarn = yarn;
        int failing = 0;
        for (int size = 0; size < s.sizes.size(); size++) {
            for (int piece = 0; piece < s.pieces.size(); piece++) {
                failing += knitting(size, piece).failure != 0 ? 1 : 0;
            }
        }
        return failing;
    }

    int setValue(int measure, int size, int value) {
        index(measure, s.measures.size());
        index(size, s.sizes.size());
        argument(value, 0, 3000);
        changing();
        return s.values.get(measure).set(size, value);
    }

    int grade(int measure, int first, int step) {
        index(measure, s.measures.size());
        List<Integer> values = new ArrayList<>();
        for (int size = 0; size < s.sizes.size(); size++) {
            long value = first + size * (long) step;
            if (value < 0 || value > 3000) {
                throw new IllegalArgumentException();
            }
            values.add((int) value);
        }
        changing();
        s.values.set(measure, values);
        return values.get(values.size() - 1);
    }

    int setEase(int piece, int part, int ease) {
        index(piece, s.pieces.size());
        index(part, s.parts.get(piece).size());
        argument(ease, -999, 999);
        if (s.parts.get(piece).get(part).kind.equals("work")) {
            throw new IllegalStateException();
        }
        changing();
        int previous = s.parts.get(piece).get(part).ease;
        s.parts.get(piece).get(part).ease = ease;
        return previous;
    }

    int addLot(int color, int meters) {
        argument(color, 0, 3);
        argument(meters, 1, 9999);
        if (s.lots.size() == 10) {
            throw new IllegalStateException();
        }
        changing();
        Lot lot = new Lot();
        lot.color = color;
        lot.meters = meters;
        s.lots.add(lot);
        return s.lots.size() - 1;
    }

    int removeLot(int lot) {
        index(lot, s.lots.size());
        changing();
        return s.lots.remove(lot).meters;
    }

    int undo() {
        if (undos.isEmpty()) {
            throw new IllegalStateException();
        }
        s = undos.remove(undos.size() - 1);
        forget();
        return undos.size();
    }

    void save(int slot) {
        index(slot, 2);
        slots[slot] = s.copy();
    }

    private State saved(int slot) {
        index(slot, 2);
        if (slots[slot] == null) {
            throw new NoSuchElementException();
        }
        return slots[slot];
    }

    void restore(int slot) {
        s = saved(slot).copy();
        undos.clear();
        forget();
    }

    int differences(int slot) {
        State then = saved(slot);
        int different = 0;
        for (int size = 0; size < s.sizes.size(); size++) {
            for (int piece = 0; piece < s.pieces.size(); piece++) {
                Knitting a = knitting(size, piece);
                Knitting b = knit(then, size, piece);
                if (a.failure != b.failure || !a.behind.equals(b.behind)) {
                    different++;
                }
            }
        }
        return different;
    }
}
