import java.util.NoSuchElementException;

/** What the tests share: comparing answers and exceptions, and bringing texts into a grader. */
final class Check {
    interface Call {
        Object answer();
    }

    private static int wrong = 0;
    private static int looked = 0;

    private Check() {
    }

    /** The answer of a call as text; an exception counts as an answer. */
    static String told(Call call) {
        try {
            return String.valueOf(call.answer());
        } catch (RuntimeException e) {
            return "throws." + e.getClass().getSimpleName();
        }
    }

    /** A call without an answer. */
    static Call done(Runnable call) {
        return () -> {
            call.run();
            return "done";
        };
    }

    static void due(String what, Call call, Object want) {
        same(what, told(call), String.valueOf(want));
    }

    static void range(String what, Call call) {
        due(what, call, "throws." + IndexOutOfBoundsException.class.getSimpleName());
    }

    static void argument(String what, Call call) {
        due(what, call, "throws." + IllegalArgumentException.class.getSimpleName());
    }

    static void state(String what, Call call) {
        due(what, call, "throws." + IllegalStateException.class.getSimpleName());
    }

    static void missing(String what, Call call) {
        due(what, call, "throws." + NoSuchElementException.class.getSimpleName());
    }

    static void same(String what, String got, String want) {
        looked++;
        if (!got.equals(want)) {
            wrong++;
            System.out.println(what + " answered " + got + ", due is " + want);
        }
    }

    static void end(String name) {
        System.out.println(name + ": " + looked + " answers looked at, " + wrong + " wrong");
        if (wrong != 0) {
            System.exit(1);
        }
    }

    static int wrongs() {
        return wrong;
    }

    private static int four(String text, int at) {
        int four = 0;
        for (int i = at; i < at + 4; i++) {
            four = four << 8 | (i < text.length() ? text.charAt(i) & 255 : ' ');
        }
        return four;
    }

    /** Appends a text of any length to the buffer; 20 bytes at a time, the blanks behind it cut off again. */
    static void write(KnitGrader grader, String text) {
        int length = 0;
        for (int at = 0; at < text.length(); at += 20) {
            length = grader.append(four(text, at), four(text, at + 4), four(text, at + 8), four(text, at + 12), four(text, at + 16));
        }
        int surplus = (20 - text.length() % 20) % 20;
        if (surplus > 0) {
            grader.truncate(length - surplus);
        }
    }

    static KnitGrader loaded(String text) {
        KnitGrader grader = new KnitGrader();
        write(grader, text);
        due("load of " + text, () -> {
            grader.load();
            return "loaded";
        }, "loaded");
        return grader;
    }

    /** Loads a text that has an error, and looks at the code and the position. */
    static void fault(String text, int code, int position) {
        KnitGrader grader = new KnitGrader();
        write(grader, text);
        argument("load of " + text, grader::load);
        due("error code of " + text, grader::errorCode, code);
        due("error position of " + text, grader::errorPosition, position);
        due("pieces after the error of " + text, () -> grader.count(3), 1);
        due("buffer after the error of " + text, () -> grader.truncate(0), 0);
        range("buffer is not longer after the error of " + text, () -> grader.truncate(1));
    }
}
