import java.util.ArrayList;
import java.util.List;

/** What the tests share: counting wrong answers, and short ways to make and read objects. */
final class Checks {
    // A broken program could be wrong millions of times.
    private static final int MOST_PRINTED = 50;

    private static int made = 0;
    private static int wrong = 0;

    private Checks() {
    }

    static void due(String what, Object got, Object want) {
        made++;
        if (!got.equals(want)) {
            wrong++;
            if (wrong <= MOST_PRINTED) {
                System.out.println(what + " answered " + got + ", due is " + want);
            }
        }
    }

    /** Ends the test's run, with exit code 1 if an answer was wrong. */
    static void finish() {
        System.out.println(made + " answers looked at, " + wrong + " wrong");
        if (wrong != 0 || made == 0) {
            System.exit(1);
        }
    }

    static boolean putText(TacitTrains t, String text) {
        boolean all = true;
        for (char c : text.toCharArray()) {
            all &= t.putChar(c);
        }
        return all;
    }

    static TacitTrains withText(int limit, String text) {
        TacitTrains t = new TacitTrains(limit);
        due("putting " + text, putText(t, text), true);
        return t;
    }

    static TacitTrains parsed(int limit, String text) {
        TacitTrains t = withText(limit, text);
        due("parse of " + text, t.parse(), true);
        return t;
    }

    static void push(TacitTrains t, int which, int... values) {
        for (int value : values) {
            due("pushArg(" + which + ", " + value + ")", t.pushArg(which, value), true);
        }
    }

    static String canon(TacitTrains t) {
        StringBuilder s = new StringBuilder();
        for (int i = 0; i < t.canonLength(); i++) {
            s.append(t.canonChar(i));
        }
        return s.toString();
    }

    static List<Integer> result(TacitTrains t) {
        List<Integer> values = new ArrayList<>();
        for (int i = 0; i < t.resultLength(); i++) {
            values.add(t.resultAt(i));
        }
        return values;
    }

    static List<Integer> list(int... values) {
        List<Integer> all = new ArrayList<>();
        for (int value : values) {
            all.add(value);
        }
        return all;
    }

    /** Everything that the public face shows without changing the object. */
    static String shown(TacitTrains t) {
        return "limit " + t.limit() + ", text " + t.textLength() + ", train " + t.hasTrain()
            + " " + canon(t) + ", x " + t.argLength(TacitTrains.ARG_X)
            + ", y " + t.argLength(TacitTrains.ARG_Y)
            + ", status " + t.status() + ", result " + result(t);
    }
}
