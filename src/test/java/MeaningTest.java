import java.util.List;

/** The sentences under 'Meaning': forks, hooks, atops, the three adverbs and digits. */
public final class MeaningTest extends Checks {
    // Verbs that fail in either use, whatever their arguments, each with a code of its own (at limits of 2 and more).
    private static final String FAILS_LENGTH = "((1,2)|1)";
    private static final String FAILS_DOMAIN = "((0-1)#1)";
    private static final String FAILS_LIMIT = "((9+9)#1)";
    private static final String[] FAILING = {FAILS_LENGTH, FAILS_DOMAIN, FAILS_LIMIT};
    private static final int[] CODES = {LENGTH, DOMAIN, LIMIT};

    // In dyadic use: x followed by y when x has one element; ERR_DOMAIN when x has more.
    private static final String JOINS_ONCE = "((3-+@#@[)#,)";

    public static void main(String[] args) {
        failures();
        fork();
        hook();
        atop();
        reduce();
        scanMonad();
        scanDyad();
        each();
        eachDyad();
        digits();
        consequence();
        longestRuns();
        finish();
    }

    private static void fails(int[] x, String text, int[] y, int status) {
        monadFails(text, y, status);
        dyadFails(x, text, y, status);
    }

    private static void failures() {
        heading("Meaning");
        sentence("The first step that fails ends the whole application, and its code (ERR_...) becomes the status.", () -> {
            for (int i = 0; i < FAILING.length; i++) {
                fails(v(1), FAILING[i], v(1), CODES[i]);
                fails(v(1), "2#" + FAILING[i], v(1), CODES[i]);
                fails(v(1), "#@" + FAILING[i], v(1), CODES[i]);
                fails(v(1), "7@" + FAILING[i], v(1), CODES[i]);
                fails(NONE, FAILING[i], NONE, CODES[i]);
            }
        });
        sentence("An application is one sequential run, and the steps of each rule happen in the order written.", () -> {
            for (int i = 0; i < FAILING.length; i++) {
                for (int k = 0; k < FAILING.length; k++) {
                    String last = FAILING[i];
                    String first = FAILING[k];
                    fails(v(1), last + "-" + first, v(1), CODES[k]);
                    fails(v(1), last + first, v(1), CODES[k]);
                    fails(v(1), last + "@" + first, v(1), CODES[k]);
                    fails(v(1), first + last + "]", v(1), CODES[k]);
                }
            }
        });
    }

    private static void fork() {
        sentence("V y: a = h y; b = f y; the result is b g a (g dyadic, left b, right a).", () -> {
            monad(">-<", v(5, 6), 2, 2);
            monad("#,|", v(5, 6), 2, 6, 5);
            monad("|,#", v(5, 6), 6, 5, 2);
            monad("#-]", NONE);
            monad("#,]", NONE, 0);
            monadFails(FAILS_LENGTH + FAILS_DOMAIN + FAILS_LIMIT, v(1), LIMIT);
            monadFails(FAILS_LENGTH + FAILS_LIMIT + FAILS_DOMAIN, v(1), DOMAIN);
            monadFails(FAILS_DOMAIN + FAILS_LIMIT + FAILS_LENGTH, v(1), LENGTH);
            monadFails(FAILS_DOMAIN + FAILS_LIMIT + "]", v(1), DOMAIN);
            monadFails(FAILS_LIMIT + FAILS_DOMAIN + "]", v(1), LIMIT);
            monadFails("]" + FAILS_DOMAIN + "]", v(1), DOMAIN);
        });
        sentence("x V y: a = x h y; b = x f y; the result is b g a.", () -> {
            dyad(v(10, 20), "+*-", v(1, 2), 99, 396);
            dyad(v(1, 2), "],[", v(3), 3, 1, 2);
            dyad(v(1, 2), "[,]", NONE, 1, 2);
            dyad(NONE, "[,]", v(3), 3);
            dyadFails(v(1), FAILS_LENGTH + FAILS_DOMAIN + FAILS_LIMIT, v(1), LIMIT);
            dyadFails(v(1), FAILS_LENGTH + FAILS_LIMIT + FAILS_DOMAIN, v(1), DOMAIN);
            dyadFails(v(1), FAILS_DOMAIN + FAILS_LIMIT + FAILS_LENGTH, v(1), LENGTH);
            dyadFails(v(1), FAILS_DOMAIN + FAILS_LIMIT + "]", v(1), DOMAIN);
            dyadFails(v(1), FAILS_LIMIT + FAILS_DOMAIN + "]", v(1), LIMIT);
            dyadFails(v(-1, 1), "#+|", v(1, 2), LENGTH);
            dyadFails(v(-1, 1), "|+#", v(1, 2), DOMAIN);
            dyadFails(v(1, 17), "#||", v(1, 2), LENGTH);
            dyadFails(v(1, 17), "||#", v(1, 2), LIMIT);
        });
    }

    private static void hook() {
        sentence("V y: a = g y; the result is y f a.", () -> {
            monad("-+", v(5, 6), -5, -6);
            monad(",#", v(5, 6), 5, 6, 2);
            monad(",#", NONE, 0);
            monadFails(FAILS_LENGTH + FAILS_DOMAIN, v(1), DOMAIN);
            monadFails(FAILS_DOMAIN + FAILS_LENGTH, v(1), LENGTH);
            monadFails(FAILS_LIMIT + "]", v(1), LIMIT);
            monadFails("#(+/)", NONE, LENGTH);
        });
        sentence("x V y: a = g y (monadic); the result is x f a.", () -> {
            dyad(v(100), "-+", v(5, 6), 90, 88);
            dyad(v(100), ",|", v(5, 6), 100, 6, 5);
            dyad(NONE, ",#", v(5, 6), 2);
            dyad(v(8), ",#", NONE, 8, 0);
            dyadFails(v(1), FAILS_LENGTH + FAILS_DOMAIN, v(1), DOMAIN);
            dyadFails(v(1), FAILS_DOMAIN + FAILS_LENGTH, v(1), LENGTH);
            dyadFails(v(-1), "#(+/)", NONE, LENGTH);
        });
    }

    private static void atop() {
        sentence("V y: a = v y; the result is u a.", () -> {
            monad("-@>", v(5), -6);
            monad("<@-@>", v(5), -7);
            monad("#@,", NONE, 0);
            monadFails("+/@,", NONE, LENGTH);
            monadFails(FAILS_LENGTH + "@" + FAILS_LIMIT, v(1), LIMIT);
            monadFails(FAILS_LIMIT + "@" + FAILS_LENGTH, v(1), LENGTH);
        });
        sentence("x V y: a = x v y; the result is u a (monadic).", () -> {
            dyad(v(1, 2), "#@,", v(3), 3);
            dyad(v(7), "-@-", v(5), -2);
            dyad(v(7), "+@-@]", v(5), -10);
            dyad(v(7), "+@(-@-)", v(5), -4);
            dyad(NONE, "#@,", NONE, 0);
            dyadFails(v(1), FAILS_LENGTH + "@" + FAILS_LIMIT, v(1), LIMIT);
            dyadFails(v(1), FAILS_LIMIT + "@" + FAILS_LENGTH, v(1), LENGTH);
            // The value between the two verbs has the limit of every vector.
            dyadAt(3, v(1, 2), "#@,", v(3, 4), LIMIT);
            dyadAt(4, v(1, 2), "#@,", v(3, 4), OK, 4);
        });
    }

    private static void reduce() {
        sentence("`u/` (reduce). V y: if |y| = 0, fail ERR_LENGTH.", () -> {
            for (String verb : new String[] {"+", "-", ",", "[", "]", "#", "|", "7", FAILS_DOMAIN, FAILS_LIMIT}) {
                monadFails(verb + "/", NONE, LENGTH);
            }
            monadAt(1, "+/", NONE, LENGTH);
        });
        sentence("r = [y[0]]; for i = 1..|y|-1: r = r u [y[i]]. The result is r.", () -> {
            // One element: u is not run.
            for (String verb : new String[] {"+", "-", ",", "[", "]", "#", "|", "7", FAILS_DOMAIN, FAILS_LIMIT}) {
                monad(verb + "/", v(-5), -5);
            }
            monad("+/", v(1, 2, 3, 4), 10);
            monad("-/", v(10, 2, 3), 5);
            monad("]/", v(1, 2, 3), 3);
            monad("[/", v(1, 2, 3), 1);
            monad("7/", v(1, 2), 7);
            monad("(,#)/", v(5, 6), 5, 1);
            // r may have any length on its way and at the end.
            monad(",/", v(1, 2, 3), 1, 2, 3);
            monad(",/", run(1, 16), run(1, 16));
            monad("#/", v(0, 4));
            monad("#/", v(3, 4), 4, 4, 4);
            monad("#@,/", v(5, 6, 7), 2);
            monadFails("#/", v(0, 4, 5), LENGTH);
            monadFails("#/", v(-1, 4), DOMAIN);
            monadFails("#/", v(17, 4), LIMIT);
        });
        sentence("x V y: r = x; for i = 0..|y|-1: r = r u [y[i]].", () -> {
            dyad(v(100), "-/", v(1, 2, 3), 94);
            dyad(v(100, 200), "-/", v(1, 2), 97, 197);
            dyad(v(100), "-/", v(1), 99);
            dyad(NONE, ",/", v(1, 2), 1, 2);
            dyad(NONE, "-/", v(1));
            dyadAt(3, NONE, ",/", v(1, 2, 3), OK, 1, 2, 3);
            dyadAt(3, v(1), ",/", v(1, 2, 3), LIMIT);
            dyadFails(v(1), FAILS_DOMAIN + "/", v(1), DOMAIN);
        });
        sentence("The result is r (so x itself when |y| = 0).", () -> {
            for (String verb : new String[] {"-", ",", "]", "7", FAILS_DOMAIN, FAILS_LIMIT, FAILS_LENGTH}) {
                for (int n = 0; n <= MOST; n++) {
                    dyad(run(30, n), verb + "/", NONE, run(30, n));
                }
            }
            dyadAt(1, v(5), "+/", NONE, OK, 5);
        });
    }

    private static void scanMonad() {
        sentence("`u\\` (scan). V y: if |y| = 0, the result is empty.", () -> {
            for (String verb : new String[] {"+", ",", "7", FAILS_LENGTH, FAILS_DOMAIN, FAILS_LIMIT}) {
                monad(verb + "\\", NONE);
            }
        });
        sentence("z[0] = y[0]; r = [y[0]]", () -> {
            for (String verb : new String[] {"+", ",", "7", FAILS_LENGTH, FAILS_DOMAIN, FAILS_LIMIT}) {
                monad(verb + "\\", v(-5), -5);
            }
        });
        sentence("for i = 1..|y|-1: r = r u [y[i]]; if |r| != 1, fail ERR_LENGTH; z[i] = r[0]. The result is z.", () -> {
            monad("+\\", v(1, 2, 3, 4), 1, 3, 6, 10);
            monad("-\\", v(10, 2, 3), 10, 8, 5);
            monad("7\\", v(1, 2, 3), 1, 7, 7);
            monad("#\\", v(1, 1, 5), 1, 1, 5);
            monad("+\\", repeated(1, 16), run(1, 16));
            monadFails(",\\", v(4, 5), LENGTH);
            monadFails("#\\", v(0, 5), LENGTH);
            monadFails("#\\", v(2, 5), LENGTH);
            monadFails("#\\", v(1, 2, 5), LENGTH);
            // The length is looked at in each step, before the next one runs.
            monadFails(JOINS_ONCE + "\\", v(5, 6), LENGTH);
            monadFails(JOINS_ONCE + "\\", v(5, 6, 7), LENGTH);
            monadFails(JOINS_ONCE + "/", v(5, 6, 7), DOMAIN);
            monadFails("#\\", v(-1, 5), DOMAIN);
            monadFails("#\\", v(1, -1, 5), DOMAIN);
            monadFails("#\\", v(17, 5), LIMIT);
            monadFails("#\\", v(1, 17, -1), LIMIT);
        });
    }

    private static void scanDyad() {
        sentence("x V y: r = x; for i = 0..|y|-1: r = r u [y[i]]; if |r| != 1, fail ERR_LENGTH; z[i] = r[0].", () -> {
            dyad(v(100), "-\\", v(1, 2, 3), 99, 97, 94);
            dyad(v(0), "+\\", repeated(1, 16), run(1, 16));
            // x itself may have any length, if the first step makes one element of it.
            dyad(v(1, 2), "]\\", v(5, 6), 5, 6);
            dyad(v(1, 2), "#@,\\", v(5, 6), 3, 2);
            dyad(NONE, ",\\", v(5), 5);
            dyad(NONE, "7\\", v(5, 6), 7, 7);
            dyadFails(NONE, ",\\", v(5, 6), LENGTH);
            dyadFails(v(1, 2), "-\\", v(5), LENGTH);
            dyadFails(NONE, "-\\", v(5), LENGTH);
            dyadFails(v(1), ",\\", v(5), LENGTH);
            dyadFails(v(1), JOINS_ONCE + "\\", v(5, 6), LENGTH);
            dyadFails(v(1), JOINS_ONCE + "/", v(5, 6), DOMAIN);
            dyadFails(v(1, 2), JOINS_ONCE + "\\", v(5), DOMAIN);
            dyadFails(v(-1), "#\\", v(5), DOMAIN);
            dyadFails(v(17), "#\\", v(5), LIMIT);
            dyadFails(v(2), "#\\", v(5), LENGTH);
        });
        sentence("The result is z (empty if |y| = 0).", () -> {
            for (String verb : new String[] {"+", ",", "7", FAILS_LENGTH, FAILS_DOMAIN, FAILS_LIMIT}) {
                for (int n = 0; n <= MOST; n++) {
                    dyad(run(30, n), verb + "\\", NONE);
                }
            }
        });
    }

    private static void each() {
        sentence("`u\"` (each). V y: for i = 0..|y|-1: r = u [y[i]] (monadic); if |r| != 1, fail ERR_LENGTH; "
            + "z[i] = r[0].", () -> {
                monad("-\"", v(1, 2, 3), -1, -2, -3);
                monad("#\"", v(5, 6, 7), 1, 1, 1);
                monad("+/\"", v(4, 5), 4, 5);
                monad("-\"", run(1, 16), v(-1, -2, -3, -4, -5, -6, -7, -8, -9, -10, -11, -12, -13, -14, -15, -16));
                for (String verb : new String[] {"-", "(,#)", "7", FAILS_LENGTH, FAILS_DOMAIN, FAILS_LIMIT}) {
                    monad(verb + "\"", NONE);
                }
                monadFails("(,#)\"", v(1), LENGTH);
                monadFails("(0#])\"", v(1), LENGTH);
                monadFails("(0#])\"", v(1, 2), LENGTH);
                // The elements are taken in order, and the length is looked at before the next one.
                monad("(]#])\"", v(1, 1), 1, 1);
                monadFails("(]#])\"", v(1, 2), LENGTH);
                monadFails("(]#])\"", v(1, -1), DOMAIN);
                monadFails("(]#])\"", v(1, 17), LIMIT);
                monadFails("(]#])\"", v(0, -1), LENGTH);
                monadFails("(]#])\"", v(-1, 0), DOMAIN);
                monadFails("(]#])\"", v(2, 17), LENGTH);
                monadFails("(]#])\"", v(17, -1), LIMIT);
            });
    }

    private static void eachDyad() {
        sentence("x V y: pair x with y (see Pairing; a pairing failure comes before any step)", () -> {
            for (int n = 0; n <= MOST; n++) {
                for (int m = 0; m <= MOST; m++) {
                    boolean pairs = n == m || n == 1 || m == 1;
                    int count = n == 1 ? m : n;
                    int[] sevens = pairs ? repeated(7, count) : NONE;
                    dyadAt(MOST, run(1, n), "7\"", run(1, m), pairs ? OK : LENGTH, sevens);
                    int first = count == 0 ? OK : DOMAIN;
                    dyadAt(MOST, run(1, n), FAILS_DOMAIN + "\"", run(1, m), pairs ? first : LENGTH);
                }
            }
            dyadFails(v(-1, -1), "#\"", v(1, 1, 1), LENGTH);
            dyadFails(v(17, 17), "#\"", v(1, 1, 1), LENGTH);
        });
        sentence("for pair i = (a,b), in order: r = [a] u [b]; if |r| != 1, fail ERR_LENGTH; z[i] = r[0].", () -> {
            dyad(v(10, 20), "-\"", v(1, 2), 9, 18);
            dyad(v(10), "-\"", v(1, 2), 9, 8);
            dyad(v(10, 20), "-\"", v(1), 9, 19);
            dyad(v(10, 20), "]\"", v(1), 1, 1);
            dyad(v(10), "[\"", v(1, 2), 10, 10);
            dyad(v(1, 1), "#\"", v(8, 9), 8, 9);
            dyad(v(10), "-\"", NONE);
            dyad(NONE, "-\"", v(1));
            dyad(NONE, ",\"", NONE);
            dyadFails(v(1), ",\"", v(1), LENGTH);
            dyadFails(v(1, 2), "#\"", v(8, 9), LENGTH);
            dyadFails(v(1, -2), "#\"", v(8, 9), DOMAIN);
            dyadFails(v(0, -2), "#\"", v(8, 9), LENGTH);
            dyadFails(v(2, -2), "#\"", v(8, 9), LENGTH);
            dyadFails(v(-2, 0), "#\"", v(8, 9), DOMAIN);
            dyadFails(v(-2, 17), "#\"", v(8, 9), DOMAIN);
            dyadFails(v(17, -2), "#\"", v(8, 9), LIMIT);
        });
    }

    private static void digits() {
        sentence("V y = x V y = [d].", () -> {
            for (int d = 0; d <= 9; d++) {
                monad("" + d, v(1, 2), d);
                dyad(v(1, 2), "" + d, v(1, 2), d);
            }
            monad("3+]", v(1, 2), 4, 5);
            dyad(v(1), "2#]", v(5, 6), 5, 5, 6, 6);
        });
        sentence("It never fails and ignores its arguments.", () -> {
            for (int n : v(0, 1, 2, 16)) {
                monad("0", run(-1, n), 0);
                for (int m : v(0, 1, 3, 16)) {
                    dyad(run(-1, n), "9", run(MIN, m), 9);
                }
            }
            monadAt(1, "9", NONE, OK, 9);
            dyadAt(1, v(MIN), "9", v(MAX), OK, 9);
        });
    }

    private static void consequence() {
        sentence("monadic application of the hook `(A)(B)` always equals monadic application of the fork `](A)(B)`, "
            + "in status, in result, and in which error code wins", () -> {
                String[] verbs = {"+", "-", "<", "#", ",", "|", "[", "]", "0", "3", "+/", "#\\", ",\"", "#@,", ",#", "9#]",
                    FAILS_LENGTH, FAILS_DOMAIN, FAILS_LIMIT};
                List<int[]> ys = List.of(NONE, v(1), v(-1), v(1, 2), v(3, 0, 2), v(9, 9), v(1, -1), run(1, 16));
                for (String a : verbs) {
                    for (String b : verbs) {
                        for (int[] y : ys) {
                            equalsFork("(" + a + ")(" + b + ")", y);
                        }
                    }
                }
            });
    }

    private static void equalsFork(String hook, int[] y) {
        TacitTrains hooked = ready(MOST, hook, v(2), y);
        TacitTrains forked = ready(MOST, "]" + hook, v(2), y);
        due(hook + " against its fork at " + list(y), hooked.apply(MONAD), forked.apply(MONAD));
        due("results of both", result(hooked), result(forked));
    }

    /** Runs as long, as wide and as deep as a text and two adverbs can ask for end with an answer. */
    private static void longestRuns() {
        sentence("An application is one sequential run", () -> {
            int[] full = run(-8, 16);
            String forks = "(" + "]>".repeat(13) + "])";
            dyad(full, forks + "\"/", full, repeated(7, 16));
            monad("+@".repeat(15) + "+", v(1), 65536);
            monad(">@".repeat(15) + ">/", v(5), 5);
            monad("(".repeat(15) + ">" + ")".repeat(15), v(5), 6);
            monad("(".repeat(10) + ">" + "<)".repeat(10), v(5), 5);
            // Both adverbs go through 16 elements each: 256 runs of the innermost verb.
            dyad(v(0), "(]+/(]#1))\\", repeated(16, 16), repeated(32, 16));
            dyad(v(0), "(]" + "[@".repeat(10) + "+/(]#1))\\", repeated(16, 16), repeated(32, 16));
        });
    }
}
