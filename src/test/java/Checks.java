import java.util.ArrayList;
import java.util.Arrays;
import java.util.List;

/** What the tests share: the count of wrong answers, and short ways to make, run and read objects. */
abstract class Checks {
    static final int MIN = Integer.MIN_VALUE;
    static final int MAX = Integer.MAX_VALUE;
    static final int X = TacitTrains.ARG_X;
    static final int Y = TacitTrains.ARG_Y;
    static final int MONAD = TacitTrains.MONAD;
    static final int DYAD = TacitTrains.DYAD;
    static final int OK = TacitTrains.OK;
    static final int LENGTH = TacitTrains.ERR_LENGTH;
    static final int DOMAIN = TacitTrains.ERR_DOMAIN;
    static final int LIMIT = TacitTrains.ERR_LIMIT;
    static final int MOST = TacitTrains.MAX_LIMIT;
    static final int[] NONE = {};
    static final String ALPHABET = "+-*<>[]#,|0123456789/\\\"@()";

    // A broken program could be wrong millions of times.
    private static final int MOST_PRINTED = 5;

    private static String heading = "";
    private static String place = "";
    private static int made = 0;
    private static int wrong = 0;
    private static int wrongHere = 0;
    private static int sentences = 0;
    private static int broken = 0;

    // ---- sentences and answers

    /** The document's heading under which the sentences that follow stand. */
    static void heading(String name) {
        heading = name;
    }

    /** The test of one sentence, which is told in the document's own words. */
    static void sentence(String words, Runnable test) {
        int madeBefore = made;
        wrongHere = 0;
        place = heading + ", '" + words + "': ";
        try {
            test.run();
        } catch (RuntimeException e) {
            tellWrong("threw " + e);
        }
        if (made == madeBefore) {
            tellWrong("looked at no answer");
        }
        sentences++;
        broken += wrongHere > 0 ? 1 : 0;
        place = "";
        wrongHere = 0;
    }

    static void due(String what, Object got, Object want) {
        made++;
        if (!got.equals(want)) {
            tellWrong(what + " answered " + got + ", due is " + want);
        }
    }

    private static void tellWrong(String what) {
        wrong++;
        wrongHere++;
        if (wrongHere <= MOST_PRINTED) {
            System.out.println(place + what);
        }
    }

    /** Ends the test's run, with exit code 1 if an answer was wrong. */
    static void finish() {
        if (sentences > 0) {
            System.out.println(sentences + " sentences looked at, " + broken + " broken");
        }
        System.out.println(made + " answers looked at, " + wrong + " wrong");
        if (wrong != 0 || made == 0) {
            System.exit(1);
        }
    }

    // ---- vectors

    static int[] v(int... values) {
        return values;
    }

    /** The vector first, first + 1, ... of so many elements. */
    static int[] run(int first, int count) {
        int[] values = new int[count];
        for (int i = 0; i < count; i++) {
            values[i] = first + i;
        }
        return values;
    }

    static int[] repeated(int value, int count) {
        int[] values = new int[count];
        Arrays.fill(values, value);
        return values;
    }

    static int[] joined(int[] left, int[] right) {
        int[] values = Arrays.copyOf(left, left.length + right.length);
        System.arraycopy(right, 0, values, left.length, right.length);
        return values;
    }

    static List<Integer> list(int... values) {
        List<Integer> all = new ArrayList<>();
        for (int value : values) {
            all.add(value);
        }
        return all;
    }

    // ---- making objects

    static boolean putText(TacitTrains t, String text) {
        boolean all = true;
        for (char c : text.toCharArray()) {
            all &= t.putChar(c);
        }
        return all;
    }

    static TacitTrains withText(int limit, String text) {
        TacitTrains t = new TacitTrains(limit);
        due("putting " + text, putText(t, text), true);
        return t;
    }

    static TacitTrains parsed(int limit, String text) {
        TacitTrains t = withText(limit, text);
        due("parse of " + text, t.parse(), true);
        return t;
    }

    static void push(TacitTrains t, int which, int... values) {
        for (int value : values) {
            due("pushArg(" + which + ", " + value + ")", t.pushArg(which, value), true);
        }
    }

    static TacitTrains ready(int limit, String text, int[] x, int[] y) {
        TacitTrains t = parsed(limit, text);
        push(t, X, x);
        push(t, Y, y);
        return t;
    }

    // ---- applying trains

    static void applied(TacitTrains t, String what, int mode, int status, int... values) {
        due(what, t.apply(mode), status);
        due(what + " status", t.status(), status);
        due(what + " result", result(t), list(values));
    }

    // In monadic use x holds a value that would be seen if it were read.
    static void monadAt(int limit, String text, int[] y, int status, int... values) {
        TacitTrains t = ready(limit, text, v(-901), y);
        applied(t, text + " " + list(y) + " at limit " + limit, MONAD, status, values);
    }

    static void dyadAt(int limit, int[] x, String text, int[] y, int status, int... values) {
        TacitTrains t = ready(limit, text, x, y);
        applied(t, list(x) + " " + text + " " + list(y) + " at limit " + limit, DYAD, status, values);
    }

    static void monad(String text, int[] y, int... values) {
        monadAt(MOST, text, y, OK, values);
    }

    static void monadFails(String text, int[] y, int status) {
        monadAt(MOST, text, y, status);
    }

    static void dyad(int[] x, String text, int[] y, int... values) {
        dyadAt(MOST, x, text, y, OK, values);
    }

    static void dyadFails(int[] x, String text, int[] y, int status) {
        dyadAt(MOST, x, text, y, status);
    }

    // ---- reading objects

    static String canon(TacitTrains t) {
        StringBuilder s = new StringBuilder();
        for (int i = 0; i < t.canonLength(); i++) {
            s.append(t.canonChar(i));
        }
        return s.toString();
    }

    static List<Integer> result(TacitTrains t) {
        List<Integer> values = new ArrayList<>();
        for (int i = 0; i < t.resultLength(); i++) {
            values.add(t.resultAt(i));
        }
        return values;
    }

    static String shownText(TacitTrains t) {
        return "text " + t.textLength() + ", train " + t.hasTrain() + " " + canon(t);
    }

    static String shownArgs(TacitTrains t) {
        return "x " + t.argLength(X) + ", y " + t.argLength(Y);
    }

    static String shownResult(TacitTrains t) {
        return "status " + t.status() + ", result " + result(t);
    }

    /** Everything that the public face shows without changing the object. */
    static String shown(TacitTrains t) {
        return "limit " + t.limit() + ", " + shownText(t) + ", " + shownArgs(t) + ", " + shownResult(t);
    }
}
