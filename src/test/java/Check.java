import java.util.NoSuchElementException;

/** What the tests share: comparing answers and exceptions, and bringing texts into a grader. */
final class Check {
    interface Call {
        Object answer();
    }

    interface CallOf {
        Object answerOf(KnitGrader grader);
    }

    interface Start {
        KnitGrader grader();
    }

    static final String RANGE = "throws." + IndexOutOfBoundsException.class.getSimpleName();
    static final String ARGUMENT = "throws." + IllegalArgumentException.class.getSimpleName();
    static final String STATE = "throws." + IllegalStateException.class.getSimpleName();
    static final String MISSING = "throws." + NoSuchElementException.class.getSimpleName();

    private static int wrong = 0;
    private static int looked = 0;
    private static String sentence = "";
    private static int sentences = 0;
    private static int lookedBefore = 0;

    private Check() {
    }

    /** The answer of a call as text; an exception counts as an answer. */
    static String told(Call call) {
        try {
            return String.valueOf(call.answer());
        } catch (RuntimeException e) {
            return "throws." + e.getClass().getSimpleName();
        }
    }

    /** A call without an answer. */
    static Call done(Runnable call) {
        return () -> {
            call.run();
            return "done";
        };
    }

    static void due(String what, Call call, Object want) {
        same(what, told(call), String.valueOf(want));
    }

    static void range(String what, Call call) {
        due(what, call, RANGE);
    }

    static void argument(String what, Call call) {
        due(what, call, ARGUMENT);
    }

    static void state(String what, Call call) {
        due(what, call, STATE);
    }

    static void missing(String what, Call call) {
        due(what, call, MISSING);
    }

    static void same(String what, String got, String want) {
        looked++;
        if (!got.equals(want)) {
            wrong++;
            System.out.println(sentence + what + " answered " + got + ", due is " + want);
        }
    }

    /** Names the sentence of the document that the checks behind this call are for; each needs one at least. */
    static void sentence(String words) {
        endSentence();
        sentence = "\"" + words + "\": ";
        sentences++;
        lookedBefore = looked;
    }

    private static void endSentence() {
        if (sentences > 0 && looked == lookedBefore) {
            wrong++;
            System.out.println(sentence + "nothing looked at");
        }
    }

    static void end(String name) {
        endSentence();
        String told = sentences > 0 ? sentences + " sentences, " : "";
        System.out.println(name + ": " + told + looked + " answers looked at, " + wrong + " wrong");
        if (wrong != 0) {
            System.exit(1);
        }
    }

    static int wrongs() {
        return wrong;
    }

    /** The same refused call on a grader that is made anew: it throws, and changes nothing that can be seen. */
    static void refused(String what, String exception, Start start, CallOf call) {
        KnitGrader asked = start.grader();
        due(what, () -> call.answerOf(asked), exception);
        same("what is seen behind " + what, Picture.of(asked), Picture.of(start.grader()));
    }

    private static int four(String text, int at) {
        int four = 0;
        for (int i = at; i < at + 4; i++) {
            four = four << 8 | (i < text.length() ? text.charAt(i) & 255 : ' ');
        }
        return four;
    }

    /** Appends a text of any length to the buffer; 20 bytes at a time, the blanks behind it cut off again. */
    static void write(KnitGrader grader, String text) {
        int length = 0;
        for (int at = 0; at < text.length(); at += 20) {
            length = grader.append(four(text, at), four(text, at + 4), four(text, at + 8), four(text, at + 12), four(text, at + 16));
        }
        int surplus = (20 - text.length() % 20) % 20;
        if (surplus > 0) {
            grader.truncate(length - surplus);
        }
    }

    static KnitGrader loaded(String text) {
        KnitGrader grader = new KnitGrader();
        write(grader, text);
        due("load of " + text, () -> {
            grader.load();
            return "loaded";
        }, "loaded");
        return grader;
    }

    static void loads(String text) {
        loaded(text);
    }

    /** A text with an error; a caret stands in it before the token that has the error. */
    static void faultAt(int code, String marked) {
        int at = marked.indexOf('^');
        fault(marked.substring(0, at) + marked.substring(at + 1), code, at);
    }

    /** Loads a text that has an error, and looks at the code and the position. */
    static void fault(String text, int code, int position) {
        KnitGrader grader = new KnitGrader();
        write(grader, text);
        argument("load of " + text, grader::load);
        due("error code of " + text, grader::errorCode, code);
        due("error position of " + text, grader::errorPosition, position);
        due("pieces after the error of " + text, () -> grader.count(3), 1);
        due("buffer after the error of " + text, () -> grader.truncate(0), 0);
        range("buffer is not longer after the error of " + text, () -> grader.truncate(1));
    }
}
