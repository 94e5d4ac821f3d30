/** The examples of README.md: what stands behind each call there is what it answers. */
public final class ReadmeTest {
    private ReadmeTest() {
    }

    public static void main(String[] args) {
        newGrader();
        ownPattern();
        error();
        name();
        Check.end("ReadmeTest");
    }

    private static void newGrader() {
        KnitGrader g = new KnitGrader();
        Check.due("stitches(1, 0, 0)", () -> g.stitches(1, 0, 0), 90);
        Check.due("rows(1, 0)", () -> g.rows(1, 0), 37);
        Check.due("need(0, 0, 0)", () -> g.need(0, 0, 0), 24800);
        Check.due("possible()", g::possible, 3);
        Check.due("setValue(0, 0, 420)", () -> g.setValue(0, 0, 420), 400);
        Check.due("stitches(0, 0, 0)", () -> g.stitches(0, 0, 0), 84);
        Check.due("undo()", g::undo, 0);
    }

    /** As in README.md, so that what is told there is tried. */
    private static void write(KnitGrader g, String text) {
        int length = 0;
        for (int at = 0; at < text.length(); at += 20) {
            int[] four = new int[5];
            for (int i = 0; i < 20; i++) {
                four[i / 4] = four[i / 4] << 8 | (at + i < text.length() ? text.charAt(at + i) : ' ');
            }
            length = g.append(four[0], four[1], four[2], four[3], four[4]);
        }
        g.truncate(length - (20 - text.length() % 20) % 20);
    }

    private static void ownPattern() {
        KnitGrader g = new KnitGrader();
        write(g, "gauge 20 30 yarn 10; sizes s m l;\n"
            + "measure hip 400 450 510; measure waist 350 400 460; measure long 100 120 140;\n"
            + "chart lace kyt kkk;\n"
            + "piece back; cast hip plus 10 by 3 color 0; work long color 1 chart lace;\n"
            + "shape waist over long per 1 color 0; end;\n"
            + "lot 0 60; lot 1 60;");
        Check.due("load()", g::load, 1);
        Check.due("rows(0, 0)", () -> g.rows(0, 0), 61);
        Check.due("stitches(0, 0, 60)", () -> g.stitches(0, 0, 60), 70);
        Check.due("shaping(0, 0, 2, 0)", () -> g.shaping(0, 0, 2, 0), 32);
        Check.due("failure(0, 0)", () -> g.failure(0, 0), 0);
        Check.due("dealt(0, 0, 1)", () -> g.dealt(0, 0, 1), 1);
        Check.due("possible()", g::possible, 7);
    }

    private static void error() {
        KnitGrader g = new KnitGrader();
        write(g, "gauge 20 30 yarn 10; sizes s m s;");
        Check.argument("load()", g::load);
        Check.due("errorCode()", g::errorCode, 3);
        Check.due("errorPosition()", g::errorPosition, 31);
    }

    private static void name() {
        KnitGrader g = new KnitGrader();
        write(g, "long");
        Check.due("find(1)", () -> g.find(1), 1);
    }
}
