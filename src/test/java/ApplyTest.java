import java.util.List;

/** Promises 9 to 14: arguments, apply with the rules of Meaning and Primitives, status and result. */
public final class ApplyTest {
    private static final int MIN = Integer.MIN_VALUE;
    private static final int MAX = Integer.MAX_VALUE;
    private static final int LENGTH = TacitTrains.ERR_LENGTH;
    private static final int DOMAIN = TacitTrains.ERR_DOMAIN;
    private static final int LIMIT = TacitTrains.ERR_LIMIT;
    private static final int[] NONE = {};

    public static void main(String[] args) {
        promise9();
        promise10();
        promise11();
        promise12Refusals();
        promise12Repeats();
        primitiveMonads();
        pairedDyads();
        otherDyads();
        copyDyad();
        trains();
        reduce();
        scan();
        each();
        digits();
        firstFailureWins();
        intermediateLimits();
        promise13();
        promise14();
        Checks.finish();
    }

    private static int[] v(int... values) {
        return values;
    }

    private static TacitTrains ready(int limit, String text, int[] x, int[] y) {
        TacitTrains t = Checks.parsed(limit, text);
        Checks.push(t, TacitTrains.ARG_X, x);
        Checks.push(t, TacitTrains.ARG_Y, y);
        return t;
    }

    private static void applied(TacitTrains t, String what, int mode, int status, int[] values) {
        Checks.due(what, t.apply(mode), status);
        Checks.due(what + " status", t.status(), status);
        Checks.due(what + " result", Checks.result(t), Checks.list(values));
    }

    // In monadic use x holds values that would be seen if it were read.
    private static void monad(String text, int[] y, int... values) {
        TacitTrains t = ready(16, text, v(901, 902, 903, 904, 905), y);
        applied(t, text + " " + Checks.list(y), TacitTrains.MONAD, TacitTrains.OK, values);
    }

    private static void monadFails(String text, int[] y, int status) {
        TacitTrains t = ready(16, text, v(901, 902, 903, 904, 905), y);
        applied(t, text + " " + Checks.list(y), TacitTrains.MONAD, status, NONE);
    }

    private static void dyad(int[] x, String text, int[] y, int... values) {
        TacitTrains t = ready(16, text, x, y);
        applied(t, Checks.list(x) + " " + text + " " + Checks.list(y), TacitTrains.DYAD, TacitTrains.OK, values);
    }

    private static void dyadFails(int[] x, String text, int[] y, int status) {
        TacitTrains t = ready(16, text, x, y);
        applied(t, Checks.list(x) + " " + text + " " + Checks.list(y), TacitTrains.DYAD, status, NONE);
    }

    private static void limited(int limit, int[] x, String text, int[] y, int status, int... values) {
        TacitTrains t = ready(limit, text, x, y);
        String what = Checks.list(x) + " " + text + " " + Checks.list(y) + " at limit " + limit;
        applied(t, what, TacitTrains.DYAD, status, values);
    }

    private static void promise9() {
        TacitTrains t = ready(3, "[", v(1), v(2, 3));
        t.apply(TacitTrains.DYAD);
        String before = Checks.shown(t);
        for (int which : v(MIN, -1, 2, 3, MAX)) {
            Checks.due("pushArg(" + which + ", 1)", t.pushArg(which, 1), false);
        }
        Checks.due("the object after refused pushArg", Checks.shown(t), before);
        Checks.due("pushArg of MIN", t.pushArg(TacitTrains.ARG_X, MIN), true);
        Checks.due("pushArg of MAX", t.pushArg(TacitTrains.ARG_X, MAX), true);
        Checks.due("pushArg into the full x", t.pushArg(TacitTrains.ARG_X, 4), false);
        Checks.due("the object after pushArg", Checks.shown(t),
            "limit 3, text 1, train true [, x 3, y 2, status 0, result [1]");
        Checks.due("pushArg into y when x is full", t.pushArg(TacitTrains.ARG_Y, 4), true);
        Checks.due("pushArg into the full y", t.pushArg(TacitTrains.ARG_Y, 5), false);
        applied(t, "x in order", TacitTrains.DYAD, TacitTrains.OK, v(1, MIN, MAX));
        applied(t, "y in order", TacitTrains.MONAD, TacitTrains.OK, v(2, 3, 4));
    }

    private static void promise10() {
        TacitTrains t = ready(3, "[", v(1, 2, 3), v(4, 5, 6));
        t.apply(TacitTrains.DYAD);
        t.clearArgs();
        Checks.due("the object after clearArgs", Checks.shown(t),
            "limit 3, text 1, train true [, x 0, y 0, status 0, result [1, 2, 3]");
        t.clearArgs();
        Checks.due("the object after clearArgs twice", Checks.shown(t),
            "limit 3, text 1, train true [, x 0, y 0, status 0, result [1, 2, 3]");
        Checks.push(t, TacitTrains.ARG_X, 7);
        applied(t, "a new x", TacitTrains.DYAD, TacitTrains.OK, v(7));
        applied(t, "an empty y", TacitTrains.MONAD, TacitTrains.OK, NONE);
    }

    private static void promise11() {
        TacitTrains t = ready(16, "[", v(1, 2, 3), v(4, 5));
        String before = Checks.shown(t);
        Checks.due("argLength of x", t.argLength(TacitTrains.ARG_X), 3);
        Checks.due("argLength of y", t.argLength(TacitTrains.ARG_Y), 2);
        for (int which : v(MIN, -1, 2, 3, 4, MAX)) {
            Checks.due("argLength(" + which + ")", t.argLength(which), -1);
        }
        Checks.due("the object after argLength", Checks.shown(t), before);
    }

    private static void promise12Refusals() {
        TacitTrains t = new TacitTrains(4);
        for (int mode : v(MIN, -1, 0, 3, 4, MAX)) {
            Checks.due("apply(" + mode + ") with no train", t.apply(mode), TacitTrains.BAD_MODE);
        }
        Checks.due("apply(MONAD) with no train", t.apply(TacitTrains.MONAD), TacitTrains.NO_TRAIN);
        Checks.due("apply(DYAD) with no train", t.apply(TacitTrains.DYAD), TacitTrains.NO_TRAIN);
        Checks.due("a new object after refusals", Checks.shown(t),
            "limit 4, text 0, train false , x 0, y 0, status 6, result []");

        t = ready(4, "[", v(1), v(2, 3));
        t.apply(TacitTrains.MONAD);
        String before = Checks.shown(t);
        for (int mode : v(MIN, -1, 0, 3, 4, MAX)) {
            Checks.due("apply(" + mode + ") with a train", t.apply(mode), TacitTrains.BAD_MODE);
        }
        Checks.due("the object after refusals", Checks.shown(t), before);
        t.putChar('@');
        Checks.due("apply(DYAD) of a text not parsed", t.apply(TacitTrains.DYAD), TacitTrains.NO_TRAIN);
        Checks.due("status after it", t.status(), TacitTrains.OK);
        Checks.due("result after it", Checks.result(t), Checks.list(2, 3));
    }

    private static void promise12Repeats() {
        TacitTrains t = ready(6, "|,+\\", v(1), v(2, 3, 5));
        for (int i = 0; i < 3; i++) {
            applied(t, "repeated monad", TacitTrains.MONAD, TacitTrains.OK, v(5, 3, 2, 2, 5, 10));
            applied(t, "repeated dyad", TacitTrains.DYAD, TacitTrains.OK, v(3, 5, 2, 3, 6, 11));
            Checks.due("text after apply", t.textLength(), 4);
            Checks.due("canon after apply", Checks.canon(t), "(|,+\\)");
            Checks.due("x after apply", t.argLength(TacitTrains.ARG_X), 1);
            Checks.due("y after apply", t.argLength(TacitTrains.ARG_Y), 3);
        }
        // A failure in the middle leaves nothing behind for the next apply.
        t = ready(6, "(+/)\\", v(1, 2), v(2, 3));
        applied(t, "a failing dyad", TacitTrains.DYAD, LENGTH, NONE);
        applied(t, "a monad after it", TacitTrains.MONAD, TacitTrains.OK, v(2, 5));
        applied(t, "a failing dyad again", TacitTrains.DYAD, LENGTH, NONE);
    }

    private static void primitiveMonads() {
        int[] y = v(3, -4, 0, MAX, MIN);
        monad("+", y, 6, -8, 0, -2, 0);
        monad("-", y, -3, 4, 0, -MAX, MIN);
        monad("*", y, 1, -1, 0, 1, -1);
        monad("<", y, 2, -5, -1, MAX - 1, MAX);
        monad(">", y, 4, -3, 1, MIN, MIN + 1);
        monad("[", y, y);
        monad("]", y, y);
        monad("#", y, 5);
        monad(",", y, y);
        monad("|", y, MIN, MAX, 0, -4, 3);
        for (String verb : "+ - * < > [ ] , |".split(" ")) {
            monad(verb, NONE);
        }
        monad("#", NONE, 0);
        monad("*", v(1, -1, 2, -2), 1, -1, 1, -1);
        monad("|", v(1, 2, 3, 4), 4, 3, 2, 1);
    }

    private static void pairedDyads() {
        dyad(v(1, -2, MAX), "+", v(10, 20, 1), 11, 18, MIN);
        dyad(v(1, -2, MIN), "-", v(10, 20, 1), -9, -22, MAX);
        dyad(v(3, -2, 65536), "*", v(10, 20, 65536), 30, -40, 0);
        dyad(v(3, -2, MIN), "<", v(1, 20, MAX), 1, -2, MIN);
        dyad(v(3, -2, MIN), ">", v(1, 20, MAX), 3, 20, MAX);
        for (String verb : "+ - * < >".split(" ")) {
            dyad(NONE, verb, NONE);
            dyad(v(1), verb, NONE);
            dyad(NONE, verb, v(1));
            dyadFails(NONE, verb, v(1, 2), LENGTH);
            dyadFails(v(1, 2), verb, NONE, LENGTH);
            dyadFails(v(1, 2), verb, v(1, 2, 3), LENGTH);
            dyadFails(v(1, 2, 3), verb, v(1, 2), LENGTH);
        }
        dyad(v(10), "-", v(1, 2, 3), 9, 8, 7);
        dyad(v(1, 2, 3), "-", v(10), -9, -8, -7);
        dyad(v(10), "-", v(1), 9);
    }

    private static void otherDyads() {
        dyad(v(1, 2), "[", v(3, 4, 5), 1, 2);
        dyad(v(1, 2), "]", v(3, 4, 5), 3, 4, 5);
        dyad(NONE, "[", v(3));
        dyad(v(3), "]", NONE);
        dyad(v(1, 2), ",", v(3), 1, 2, 3);
        dyad(NONE, ",", v(3), 3);
        dyad(NONE, ",", NONE);
        limited(3, v(1, 2), ",", v(3), TacitTrains.OK, 1, 2, 3);
        limited(3, v(1, 2), ",", v(3, 4), LIMIT);
        limited(3, v(1, 2, 3), ",", NONE, TacitTrains.OK, 1, 2, 3);
        dyad(v(1), "|", v(1, 2, 3, 4), 2, 3, 4, 1);
        dyad(v(0), "|", v(1, 2, 3), 1, 2, 3);
        dyad(v(-1), "|", v(1, 2, 3), 3, 1, 2);
        dyad(v(3), "|", v(1, 2, 3), 1, 2, 3);
        dyad(v(-3), "|", v(1, 2, 3), 1, 2, 3);
        dyad(v(5), "|", v(1, 2, 3), 3, 1, 2);
        dyad(v(MAX), "|", v(1, 2, 3), 2, 3, 1);
        dyad(v(MAX), "|", v(1, 2, 3, 4, 5), 3, 4, 5, 1, 2);
        dyad(v(MIN), "|", v(1, 2, 3), 2, 3, 1);
        dyad(v(4), "|", NONE);
        dyadFails(NONE, "|", v(1), LENGTH);
        dyadFails(NONE, "|", NONE, LENGTH);
        dyadFails(v(1, 2), "|", v(1, 2), LENGTH);
        dyadFails(v(1, 2), "|", NONE, LENGTH);
    }

    private static void copyDyad() {
        dyad(v(2, 0, 1), "#", v(7, 8, 9), 7, 7, 9);
        dyad(v(2), "#", v(7, 8), 7, 7, 8, 8);
        dyad(v(0), "#", v(7, 8));
        dyad(v(-1), "#", NONE);
        dyad(v(MAX), "#", NONE);
        dyad(NONE, "#", NONE);
        dyadFails(NONE, "#", v(1), LENGTH);
        dyadFails(v(1, 1), "#", v(7), LENGTH);
        dyadFails(v(1, 1), "#", NONE, LENGTH);
        dyadFails(v(1, -1), "#", v(7, 8, 9), LENGTH);
        dyadFails(v(-1), "#", v(7, 8), DOMAIN);
        dyadFails(v(MIN), "#", v(7), DOMAIN);
        dyadFails(v(1, -1), "#", v(7, 8), DOMAIN);
        dyadFails(v(17, -1), "#", v(7, 8), LIMIT);
        dyadFails(v(-1, 17), "#", v(7, 8), DOMAIN);
        dyadFails(v(MAX), "#", v(7), LIMIT);
        dyadFails(v(1, MAX), "#", v(7, 8), LIMIT);
        dyadFails(v(16, MAX), "#", v(7, 8), LIMIT);
        limited(4, v(2), "#", v(7, 8), TacitTrains.OK, 7, 7, 8, 8);
        limited(4, v(4, 0), "#", v(7, 8), TacitTrains.OK, 7, 7, 7, 7);
        limited(4, v(4, 1), "#", v(7, 8), LIMIT);
        limited(4, v(2, 3), "#", v(7, 8), LIMIT);
        limited(4, v(5), "#", v(7), LIMIT);
        limited(1, v(1), "#", v(7), TacitTrains.OK, 7);
        limited(1, v(2), "#", v(7), LIMIT);
    }

    private static void trains() {
        // fork: (f y) g (h y), and x on both outer verbs in dyadic use
        monad(">-<", v(5, 6), 2, 2);
        monad("#,|", v(5, 6), 2, 6, 5);
        dyad(v(10, 20), "+*-", v(1, 2), 99, 396);
        dyad(v(1, 2), "],[", v(3), 3, 1, 2);
        // hook: y f (g y) and x f (g y)
        monad("-+", v(5, 6), -5, -6);
        monad(",#", v(5, 6), 5, 6, 2);
        dyad(v(100), "-+", v(5, 6), 90, 88);
        dyad(v(100), ",|", v(5, 6), 100, 6, 5);
        // atop: u (x v y)
        monad("-@>", v(5), -6);
        dyad(v(1, 2), "#@,", v(3), 3);
        dyad(v(7), "-@-", v(5), -2);
        monad("<@-@>", v(5), -7);
        dyad(v(7), "+@-@]", v(5), -10);
        dyad(v(7), "+@(-@-)", v(5), -4);
        // four words: hook(w1, fork(w2, w3, w4)); five: fork(w1, w2, fork(...))
        monad(",-->", v(5), 5, -11);
        monad(">-<*#", v(5, 6), -2, -3);
        dyad(v(9), ",>-<", v(5), 9, 2);
        monad("(-+)", v(5), -5);
        monad("](-)(+)", v(5), -5);
        monad("(,#)/", v(5, 6), 5, 1);
    }

    private static void reduce() {
        monad("+/", v(1, 2, 3, 4), 10);
        monad("-/", v(10, 2, 3), 5);
        monad("-/", v(10), 10);
        monad(",/", v(1, 2, 3), 1, 2, 3);
        monad("]/", v(1, 2, 3), 3);
        monad("[/", v(1, 2, 3), 1);
        monad("7/", v(1), 1);
        monad("7/", v(1, 2), 7);
        monadFails("+/", NONE, LENGTH);
        monadFails("7/", NONE, LENGTH);
        dyad(v(100), "-/", v(1, 2, 3), 94);
        dyad(v(100, 200), "-/", v(1, 2), 97, 197);
        dyad(v(100, 200), "-/", NONE, 100, 200);
        dyad(NONE, "-/", NONE);
        dyad(NONE, ",/", v(1, 2), 1, 2);
    }

    private static void scan() {
        monad("+\\", v(1, 2, 3, 4), 1, 3, 6, 10);
        monad("-\\", v(10, 2, 3), 10, 8, 5);
        monad("+\\", NONE);
        monad(",\\", NONE);
        monad(",\\", v(4), 4);
        monadFails(",\\", v(4, 5), LENGTH);
        dyad(v(100), "-\\", v(1, 2, 3), 99, 97, 94);
        dyad(v(1, 2), "-\\", NONE);
        dyad(NONE, "-\\", NONE);
        dyad(v(1, 2), "]\\", v(5, 6), 5, 6);
        dyad(v(1, 2), "#@,\\", v(5, 6), 3, 2);
        dyadFails(v(1, 2), "-\\", v(5), LENGTH);
        dyadFails(NONE, "-\\", v(5), LENGTH);
        dyad(NONE, ",\\", v(5), 5);
        dyadFails(NONE, ",\\", v(5, 6), LENGTH);
        monad("+/\\", v(1, 2, 3), 1, 3, 6);
        monad("+\\/", v(1, 2, 3), 6);
    }

    private static void each() {
        monad("-\"", v(1, 2, 3), -1, -2, -3);
        monad("#\"", v(5, 6, 7), 1, 1, 1);
        monad("-\"", NONE);
        monad("(,#)\"", NONE);
        monadFails("(,#)\"", v(1), LENGTH);
        monadFails("(0#])\"", v(1, 2), LENGTH);
        monad("+/\"", v(4, 5), 4, 5);
        dyad(v(10, 20), "-\"", v(1, 2), 9, 18);
        dyad(v(10), "-\"", v(1, 2), 9, 8);
        dyad(v(10, 20), "-\"", v(1), 9, 19);
        dyad(v(10, 20), "]\"", v(1), 1, 1);
        dyad(v(10), "-\"", NONE);
        dyad(NONE, "-\"", v(1));
        dyad(NONE, ",\"", NONE);
        dyadFails(v(10, 20), "-\"", v(1, 2, 3), LENGTH);
        dyadFails(v(1, 2), "5\"", v(1, 2, 3), LENGTH);
        dyadFails(NONE, "-\"", v(1, 2), LENGTH);
        dyadFails(v(1), ",\"", v(1), LENGTH);
        dyad(v(1, 1), "#\"", v(8, 9), 8, 9);
        dyadFails(v(1, 2), "#\"", v(8, 9), LENGTH);
        dyadFails(v(1, -2), "#\"", v(8, 9), DOMAIN);
        dyadFails(v(0, -2), "#\"", v(8, 9), LENGTH);
    }

    private static void digits() {
        for (int d = 0; d <= 9; d++) {
            monad("" + d, NONE, d);
            monad("" + d, v(1, 2), d);
            dyad(v(1, 2), "" + d, v(1, 2, 3), d);
        }
        monad("3+]", v(1, 2), 4, 5);
        dyad(v(1), "2#]", v(5, 6), 5, 5, 6, 6);
        limited(1, NONE, "9", NONE, TacitTrains.OK, 9);
    }

    private static void firstFailureWins() {
        // A fork runs its right verb first, then its left one, then the middle one.
        dyadFails(v(-1), "#+|@,/", v(1), DOMAIN);
        dyadFails(v(-1, 1), "#+|", v(1, 2), LENGTH);
        dyadFails(v(-1, 1), "|+#", v(1, 2), DOMAIN);
        dyadFails(v(1, 17), "#||", v(1, 2), LENGTH);
        dyadFails(v(1, 17), "||#", v(1, 2), LIMIT);
        dyadFails(v(1, 17), "|@[|#", v(1, 2), LIMIT);
        dyadFails(v(1, 17), "#|@[,", v(1, 2), LIMIT);
        // A hook runs its right verb on y before its left verb.
        monadFails("#(+/)", NONE, LENGTH);
        monadFails("#(0-1)#]", v(1), DOMAIN);
        monadFails("|((0-1)#])", v(1, 2), DOMAIN);
        dyadFails(v(-1), "#(+/)", NONE, LENGTH);
        // The hook (A)(B) and the fork ](A)(B) agree, in the winning code too.
        for (String[] pair : new String[][] {
                {"(#)((0-1)#])", "](#)((0-1)#])"}, {"(|)(,)", "](|)(,)"}, {"(#)(,)", "](#)(,)"}, {"(,)(9#])", "](,)(9#])"}}) {
            for (int[] y : new int[][] {NONE, v(1), v(1, 2), v(-1), v(3, 0, 2), v(9, 9), v(1, -1)}) {
                TacitTrains hook = ready(16, pair[0], NONE, y);
                TacitTrains fork = ready(16, pair[1], NONE, y);
                Checks.due(pair[0] + " against " + pair[1] + " at " + Checks.list(y),
                    hook.apply(TacitTrains.MONAD), fork.apply(TacitTrains.MONAD));
                Checks.due("results of both", Checks.result(hook), Checks.result(fork));
            }
        }
    }

    private static void intermediateLimits() {
        limited(3, v(1, 2), "#@,", v(3, 4), LIMIT);
        limited(4, v(1, 2), "#@,", v(3, 4), TacitTrains.OK, 4);
        limited(3, NONE, ",/", v(1, 2, 3), TacitTrains.OK, 1, 2, 3);
        limited(3, v(1), ",/", v(1, 2, 3), LIMIT);
        limited(2, v(1), "2#]", v(5, 6), LIMIT);
        // The longest runs end with an answer.
        StringBuilder forks = new StringBuilder("(");
        for (int i = 0; i < 27; i++) {
            forks.append(i % 2 == 0 ? ']' : '>');
        }
        int[] full = new int[16];
        for (int i = 0; i < 16; i++) {
            full[i] = i - 8;
        }
        TacitTrains t = ready(16, forks + ")\"/", full, full);
        applied(t, "the widest run", TacitTrains.DYAD, TacitTrains.OK,
            v(7, 7, 7, 7, 7, 7, 7, 7, 7, 7, 7, 7, 7, 7, 7, 7));
        t = ready(16, "+@".repeat(15) + "+", NONE, v(1));
        applied(t, "the deepest atop", TacitTrains.MONAD, TacitTrains.OK, v(65536));
        t = ready(16, "+".repeat(32), NONE, v(1));
        applied(t, "32 words", TacitTrains.MONAD, TacitTrains.OK, v(33));
    }

    private static void promise13() {
        TacitTrains t = Checks.withText(2, ",");
        Checks.due("status at the start", t.status(), TacitTrains.NOT_RUN);
        t.apply(TacitTrains.MONAD);
        Checks.due("status after a refusal", t.status(), TacitTrains.NOT_RUN);
        t.parse();
        Checks.push(t, TacitTrains.ARG_X, 1);
        Checks.push(t, TacitTrains.ARG_Y, 1, 2);
        t.apply(0);
        Checks.due("status after a bad mode", t.status(), TacitTrains.NOT_RUN);
        t.apply(TacitTrains.DYAD);
        Checks.due("status after a failure", t.status(), LIMIT);
        t.clearArgs();
        t.clearText();
        Checks.putText(t, "#");
        t.parse();
        Checks.due("status after changes", t.status(), LIMIT);
        Checks.due("status asked again", t.status(), LIMIT);
        t.apply(3);
        t.apply(TacitTrains.MONAD);
        Checks.due("status after a success", t.status(), TacitTrains.OK);
        t.putChar('#');
        t.apply(TacitTrains.MONAD);
        Checks.due("status after a refusal again", t.status(), TacitTrains.OK);
    }

    private static void promise14() {
        TacitTrains t = ready(4, "[", v(1, 2), v(3, 4, 5, 6));
        for (int i : v(MIN, -1, 0, 1, MAX)) {
            Checks.due("resultAt(" + i + ") before any apply", t.resultAt(i), 0);
        }
        t.apply(TacitTrains.MONAD);
        String before = Checks.shown(t);
        for (int i : v(MIN, -1, 4, 5, 15, 16, MAX)) {
            Checks.due("resultAt(" + i + ")", t.resultAt(i), 0);
        }
        Checks.due("the object after resultAt", Checks.shown(t), before);
        t.apply(TacitTrains.DYAD);
        Checks.due("a shorter result", Checks.result(t), List.of(1, 2));
        Checks.due("resultAt(2) of a shorter result", t.resultAt(2), 0);
        t.clearArgs();
        Checks.push(t, TacitTrains.ARG_X, 8, 9);
        t.clearText();
        Checks.putText(t, "|");
        Checks.due("the result after changes", Checks.result(t), List.of(1, 2));
        t.parse();
        Checks.due("the result after parse", Checks.result(t), List.of(1, 2));
        t.apply(TacitTrains.DYAD);
        Checks.due("resultLength after a failure", t.resultLength(), 0);
        Checks.due("resultAt(0) after a failure", t.resultAt(0), 0);
    }
}
