import java.util.ArrayList;
import java.util.List;
import java.util.Random;

/** Makes texts without an error, of pieces that can mostly be knitted: shapes that come out even, charts that fit. */
final class SoundText {
    private static final int LONGEST = 1500;
    /** More than a part, the end of a piece and the head of another one take. */
    private static final int ROOM_FOR_A_PART = 120;

    private final Random random;
    private final StringBuilder text = new StringBuilder();
    private final List<String> widths = new ArrayList<>();
    private final List<String> lengths = new ArrayList<>();
    private final List<String> charts = new ArrayList<>();
    private final List<Integer> chartWidths = new ArrayList<>();

    private SoundText(Random random) {
        this.random = random;
    }

    static String of(Random random) {
        SoundText sound = new SoundText(random);
        sound.table(sound.head());
        sound.charts();
        sound.pieces();
        sound.lots();
        return sound.text.toString();
    }

    private int from(int least, int most) {
        return least + random.nextInt(most - least + 1);
    }

    private boolean chance(int percent) {
        return random.nextInt(100) < percent;
    }

    private String among(List<String> names) {
        return names.get(from(0, names.size() - 1));
    }

    private void put(Object... tokens) {
        for (Object token : tokens) {
            boolean joined = token.equals(";") || text.length() == 0 || text.charAt(text.length() - 1) == ';';
            text.append(joined ? "" : chance(99) ? " " : "\n").append(token);
        }
    }

    private String name(char kind, int number) {
        return "" + kind + (char) ('a' + number) + (chance(80) ? "" : "plusby".substring(0, from(1, 6)));
    }

    private int head() {
        put("gauge", from(10, 45), from(10, 55), "yarn", from(1, 25), ";", "sizes");
        int sizes = from(1, 6);
        for (int i = 0; i < sizes; i++) {
            put(name('s', i));
        }
        put(";");
        return sizes;
    }

    private void table(int sizes) {
        int measures = from(2, 8);
        for (int i = 0; i < measures; i++) {
            boolean isWidth = i % 2 == 0;
            String name = name('m', i);
            (isWidth ? widths : lengths).add(name);
            put("measure", name);
            int first = isWidth ? from(100, 500) : chance(10) ? 0 : from(50, 350);
            int step = from(-10, 30);
            for (int size = 0; size < sizes; size++) {
                put(Math.max(0, first + size * step));
            }
            put(";");
        }
    }

    private void charts() {
        int told = from(0, 4);
        for (int i = 0; i < told; i++) {
            int width = from(1, 6);
            charts.add(name('c', i));
            chartWidths.add(width);
            put("chart", charts.get(i));
            int takes = width;
            for (int rows = from(0, 7); rows > 0; rows--) {
                int makes = Math.max((takes + 2) / 3, Math.min(Math.min(9, 3 * width), takes + from(-2, 2)));
                put(row(takes, makes));
                takes = makes;
            }
            put(row(takes, width), ";");
        }
    }

    private String row(int takes, int makes) {
        StringBuilder row = new StringBuilder();
        int left = takes;
        for (int behind = makes - 1; behind >= 0; behind--) {
            int taken = from(Math.max(0, left - 3 * behind), Math.min(3, left));
            row.append(taken == 0 ? 'y' : taken == 1 ? (chance(50) ? 'k' : 'p') : taken == 2 ? 't' : 's');
            left -= taken;
        }
        return row.toString();
    }

    private boolean hasRoom() {
        return text.length() < LONGEST - ROOM_FOR_A_PART;
    }

    private void pieces() {
        int told = from(1, 6);
        for (int i = 0; i < told && hasRoom(); i++) {
            put("piece", name('p', i), ";");
            piece(chance(80) ? from(1, 4) : from(1, 10));
            put("end", ";");
        }
    }

    /** All widths of a piece have the same remainder, so that each difference is a multiple of what per is. */
    private void piece(int parts) {
        int chart = charts.isEmpty() ? -1 : from(-1, charts.size() - 1);
        int per = from(1, 4);
        int chartWidth = chart < 0 ? 1 : chartWidths.get(chart);
        int multiple = per * chartWidth;
        String by = multiple == 1 && chance(50) ? "" : "by " + multiple + (chance(50) ? "" : " and " + chartWidth * from(0, per - 1));
        put("cast");
        width(by);
        put("color", from(0, 3), ";");
        for (int i = 1; i < parts && hasRoom(); i++) {
            if (chance(50)) {
                put("work", among(lengths), "color", from(0, 3));
                if (chart >= 0 && chance(70)) {
                    put("chart", charts.get(chart));
                }
            } else {
                put("shape");
                width(by);
                put("over", among(lengths), "per", per, "color", from(0, 3));
            }
            put(";");
        }
    }

    private void width(String by) {
        put(among(widths));
        if (chance(40)) {
            put(chance(50) ? "plus" : "minus", from(0, 80));
        }
        String told = chance(95) ? by : "by " + from(1, 30);
        if (!told.isEmpty()) {
            put(told);
        }
    }

    private void lots() {
        int told = from(0, 10);
        for (int i = 0; i < told && text.length() < LONGEST - 12; i++) {
            put("lot", from(0, 3), chance(50) ? from(1, 400) : from(1, 9999), ";");
        }
    }
}
