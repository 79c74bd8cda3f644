import java.util.List;
import java.util.function.Supplier;

/** The sentences of promises 9 to 14: the arguments, apply, the status and the result. */
public final class ApplyPromisesTest extends Twins {
    private static final int NOT_RUN = TacitTrains.NOT_RUN;
    private static final int[] NEITHER = {MIN, MIN + 1, -65536, -2, -1, 2, 3, 4, 5, 16, 256, 257, 65536, 65537, MAX};
    private static final int[] NO_MODE = {MIN, MIN + 1, -2, -1, 0, 3, 4, 5, 6, 7, 257, 258, 65537, 65538, MAX};

    public static void main(String[] args) {
        promise9();
        promise10();
        promise11();
        promise12Refusals();
        promise12Outcomes();
        promise13();
        promise14();
        finish();
    }

    private static void promise9() {
        heading("Promise 9: pushArg");
        sentence("which is ARG_X (vector x) or ARG_Y (vector y)", () -> {
            TacitTrains t = ready(3, "[", v(1, 2), v(3));
            applied(t, "x", DYAD, OK, 1, 2);
            applied(t, "y", MONAD, OK, 3);
        });
        sentence("if which is neither, it answers false", () -> {
            for (int which : NEITHER) {
                due("pushArg(" + which + ", 1)", new TacitTrains(3).pushArg(which, 1), false);
            }
        });
        sentence("if that vector already holds L elements, it answers false", () -> {
            for (int limit = 1; limit <= MOST; limit++) {
                TacitTrains t = new TacitTrains(limit);
                for (int which : v(X, Y)) {
                    push(t, which, run(1, limit));
                    due("pushArg number " + (limit + 1) + " into " + which, t.pushArg(which, 9), false);
                    due("argLength of the full vector", t.argLength(which), limit);
                }
            }
        });
        sentence("A false answer changes nothing.", () -> {
            for (int which : NEITHER) {
                changesNothing("pushArg(" + which + ", 1)", t -> t.pushArg(which, 1));
            }
            for (int which : v(X, Y)) {
                TacitTrains t = ready(4, ",", run(1, 4), run(5, 4));
                TacitTrains twin = ready(4, ",", run(1, 4), run(5, 4));
                due("pushArg into the full vector " + which, t.pushArg(which, 9), false);
                due("the object after it", everything(t), everything(twin));
            }
        });
        sentence("Otherwise it appends value (any int) to the end of that vector and answers true.", () -> {
            int[] values = {MIN, MIN + 1, -65536, -1, 0, 1, 255, 256, 65535, 65536, MAX - 1, MAX};
            TacitTrains t = ready(MOST, "[", values, NONE);
            applied(t, "x in order", DYAD, OK, values);
            t = ready(MOST, "]", NONE, values);
            applied(t, "y in order", MONAD, OK, values);
        });
        sentence("The other vector, the text, the train, the result and the status are kept.", () -> {
            keeps("pushArg of x", t -> t.pushArg(X, 77), ApplyPromisesTest::besideX);
            keeps("pushArg of y", t -> t.pushArg(Y, 77), ApplyPromisesTest::besideY);
            TacitTrains t = ready(3, "[", run(1, 3), NONE);
            due("pushArg into y when x is full", t.pushArg(Y, 4), true);
            t = ready(3, "[", NONE, run(1, 3));
            due("pushArg into x when y is full", t.pushArg(X, 4), true);
        });
    }

    private static String besideX(TacitTrains t) {
        String rest = shownText(t) + ", " + shownResult(t) + ", " + t.argLength(Y) + ", " + heldText(t) + ", ";
        String args = heldArgs(t);
        return rest + args.substring(args.indexOf("y:"));
    }

    private static String besideY(TacitTrains t) {
        String rest = shownText(t) + ", " + shownResult(t) + ", " + t.argLength(X) + ", " + heldText(t) + ", ";
        String args = heldArgs(t);
        return rest + args.substring(0, args.indexOf("y:"));
    }

    private static void promise10() {
        heading("Promise 10: clearArgs");
        sentence("`clearArgs()` empties both x and y.", () -> {
            for (Supplier<TacitTrains> state : STATES) {
                TacitTrains t = state.get();
                for (int i = 0; i < 2; i++) {
                    t.clearArgs();
                    due("the arguments after clearArgs", shownArgs(t), "x 0, y 0");
                }
                push(t, X, run(50, t.limit()));
                push(t, Y, run(70, t.limit()));
                due("what they hold afterwards", heldArgs(t),
                    "x: " + list(run(50, t.limit())) + ", y: " + list(run(70, t.limit())));
            }
        });
        sentence("Nothing else changes.", () -> keeps("clearArgs", t -> t.clearArgs(),
            t -> t.limit() + ", " + shownText(t) + ", " + shownResult(t) + ", " + heldText(t)));
    }

    private static void promise11() {
        heading("Promise 11: argLength");
        sentence("`argLength(int which)` answers the length of x when which = ARG_X, "
            + "the length of y when which = ARG_Y (each in 0..L)", () -> {
                for (int limit = 1; limit <= MOST; limit++) {
                    TacitTrains t = new TacitTrains(limit);
                    for (int i = 0; i <= limit; i++) {
                        due("argLength of x", t.argLength(X), i);
                        due("argLength of y", t.argLength(Y), 0);
                        t.pushArg(X, 5);
                    }
                    due("argLength of the full x", t.argLength(X), limit);
                    push(t, Y, 6);
                    due("argLength of y beside it", t.argLength(Y), 1);
                }
            });
        sentence("-1 for any other which", () -> {
            for (int which : NEITHER) {
                due("argLength(" + which + ") of a new object", new TacitTrains(4).argLength(which), -1);
                due("argLength(" + which + ") of a busy object", busy().argLength(which), -1);
            }
        });
        sentence("It changes nothing.", () -> {
            for (int which : v(X, Y, 2, 3, -1, MIN, MAX)) {
                changesNothing("argLength(" + which + ")", t -> t.argLength(which));
            }
        });
    }

    private static void promise12Refusals() {
        heading("Promise 12: apply");
        sentence("if mode is neither MONAD nor DYAD, it answers BAD_MODE", () -> {
            for (int mode : NO_MODE) {
                due("apply(" + mode + ") with a train", busy().apply(mode), TacitTrains.BAD_MODE);
            }
        });
        sentence("if no train is held, it answers NO_TRAIN", () -> {
            for (int mode : v(MONAD, DYAD)) {
                TacitTrains t = new TacitTrains(4);
                due("apply of a new object", t.apply(mode), TacitTrains.NO_TRAIN);
                t.putChar('[');
                due("apply before parse", t.apply(mode), TacitTrains.NO_TRAIN);
                t.parse();
                due("apply after parse", t.apply(mode), OK);
                t.putChar('[');
                due("apply after putChar", t.apply(mode), TacitTrains.NO_TRAIN);
                t.putChar('@');
                t.parse();
                due("apply after a rejected parse", t.apply(mode), TacitTrains.NO_TRAIN);
                t.clearText();
                due("apply after clearText", t.apply(mode), TacitTrains.NO_TRAIN);
            }
        });
        sentence("`apply(int mode)` decides, in order", () -> {
            for (int mode : NO_MODE) {
                due("apply(" + mode + ") without a train", new TacitTrains(4).apply(mode), TacitTrains.BAD_MODE);
            }
        });
        sentence("Both refusals change nothing, including the status and the result.", () -> {
            for (int mode : NO_MODE) {
                changesNothing("apply(" + mode + ")", t -> due("apply", t.apply(mode), TacitTrains.BAD_MODE));
            }
            for (Supplier<TacitTrains> state : STATES) {
                TacitTrains t = state.get();
                TacitTrains twin = state.get();
                t.clearText();
                twin.clearText();
                due("apply(MONAD)", t.apply(MONAD), TacitTrains.NO_TRAIN);
                due("apply(DYAD)", t.apply(DYAD), TacitTrains.NO_TRAIN);
                due("the object after it", everything(t), everything(twin));
            }
        });
    }

    private static void promise12Outcomes() {
        sentence("V y for MONAD (x is not read), x V y for DYAD", () -> {
            // The dyadic use fails or differs for each of these x, the monadic use never looks at them.
            for (int[] x : List.of(NONE, v(5), v(-1, 2), run(1, 16))) {
                for (String text : new String[] {"[", "]", "-", "-/", "-\\", "-\"", ",#", "]-+", "|@-", "#|,"}) {
                    TacitTrains with = ready(MOST, text, x, v(3, 4, 5));
                    TacitTrains without = ready(MOST, text, NONE, v(3, 4, 5));
                    due("monadic " + text + " beside x " + list(x), with.apply(MONAD), without.apply(MONAD));
                    due("its result", result(with), result(without));
                }
            }
            dyad(v(7, 8), "[", v(3, 4, 5), 7, 8);
            dyad(v(7, 8, 9), "-", v(3, 4, 5), 4, 4, 4);
        });
        sentence("On success the status becomes OK and the result becomes the value, a vector of 0..L ints.", () -> {
            TacitTrains t = ready(3, "]", v(1), v(4, 5, 6));
            applied(t, "a full result", MONAD, OK, 4, 5, 6);
            t.clearArgs();
            applied(t, "an empty result", MONAD, OK);
            t = ready(1, "#", v(1), v(8));
            applied(t, "a full result at limit 1", DYAD, OK, 8);
            t = ready(MOST, "]", NONE, run(MIN, MOST));
            applied(t, "a full result at limit 16", MONAD, OK, run(MIN, MOST));
        });
        sentence("On failure the status becomes the code of the first failing step "
            + "(ERR_LENGTH, ERR_DOMAIN or ERR_LIMIT) and the result becomes empty.", () -> {
                int[][] counts = {v(1, 1, 1), v(1, -1), v(4, 1)};
                int[] codes = {LENGTH, DOMAIN, LIMIT};
                for (int i = 0; i < codes.length; i++) {
                    TacitTrains t = ready(4, "#", counts[i], v(8, 9));
                    applied(t, "a success before it", MONAD, OK, 2);
                    applied(t, "the failure", DYAD, codes[i]);
                    due("resultAt(0) after the failure", t.resultAt(0), 0);
                    applied(t, "a success behind it", MONAD, OK, 2);
                }
            });
        sentence("It answers the new status.", () -> {
            TacitTrains t = ready(4, "+", v(1, 2), v(1, 2, 3));
            due("apply(DYAD)", t.apply(DYAD), LENGTH);
            due("status", t.status(), LENGTH);
            due("apply(MONAD)", t.apply(MONAD), OK);
            due("status", t.status(), OK);
        });
        sentence("apply never changes the text, the train, x or y", () -> {
            for (int mode : v(MONAD, DYAD)) {
                keeps("apply(" + mode + ")", t -> t.apply(mode),
                    t -> shownText(t) + ", " + shownArgs(t) + ", " + heldText(t) + ", " + heldArgs(t));
                for (String text : new String[] {"+", "|", ",/", "+\\", "-\"", "#", "|,+\\", "(|+)/", "-@|", "]|+"}) {
                    TacitTrains t = ready(6, text, v(2, 1, 2), v(3, 4, 5));
                    t.apply(mode);
                    due("x and y after " + text, heldArgs(t), "x: [2, 1, 2], y: [3, 4, 5]");
                }
            }
        });
        sentence("so repeating it with the same mode gives the same status and result", () -> {
            TacitTrains t = ready(6, "|,+\\", v(1), v(2, 3, 5));
            for (int i = 0; i < 3; i++) {
                applied(t, "a repeated monad", MONAD, OK, 5, 3, 2, 2, 5, 10);
                applied(t, "a monad at once repeated", MONAD, OK, 5, 3, 2, 2, 5, 10);
                applied(t, "a repeated dyad", DYAD, OK, 3, 5, 2, 3, 6, 11);
                applied(t, "a dyad at once repeated", DYAD, OK, 3, 5, 2, 3, 6, 11);
            }
            t = ready(4, "#", v(5), v(1, 2));
            for (int i = 0; i < 3; i++) {
                applied(t, "a repeated failure", DYAD, LIMIT);
                applied(t, "a repeated success", MONAD, OK, 2);
            }
        });
    }

    private static void promise13() {
        heading("Promise 13: status");
        sentence("`status()` answers the status set by the last apply that was not refused", () -> {
            TacitTrains t = ready(2, ",", v(1), v(1, 2));
            t.apply(DYAD);
            due("status after a failure", t.status(), LIMIT);
            t.apply(3);
            due("status after a bad mode", t.status(), LIMIT);
            t.apply(MONAD);
            due("status after a success", t.status(), OK);
            t.apply(0);
            due("status after a bad mode again", t.status(), OK);
            t.apply(DYAD);
            t.putChar(',');
            t.apply(MONAD);
            due("status after an apply without a train", t.status(), LIMIT);
        });
        sentence("and NOT_RUN if there was none", () -> {
            TacitTrains t = new TacitTrains(2);
            due("status at the start", t.status(), NOT_RUN);
            t.apply(MONAD);
            t.apply(DYAD);
            due("status after an apply without a train", t.status(), NOT_RUN);
            putText(t, ",");
            t.parse();
            push(t, Y, 1);
            for (int mode : NO_MODE) {
                t.apply(mode);
                due("status after apply(" + mode + ")", t.status(), NOT_RUN);
            }
        });
        sentence("Changes to the text, the train or the arguments do not change it.", () -> {
            for (Supplier<TacitTrains> state : STATES) {
                TacitTrains t = state.get();
                int before = t.status();
                t.clearArgs();
                due("status after clearArgs", t.status(), before);
                t.pushArg(X, 1);
                t.pushArg(Y, 1);
                due("status after pushArg", t.status(), before);
                t.clearText();
                due("status after clearText", t.status(), before);
                t.putChar('/');
                t.parse();
                due("status after a rejected parse", t.status(), before);
                t.clearText();
                putText(t, "#");
                due("status after putChar", t.status(), before);
                t.parse();
                due("status after parse", t.status(), before);
            }
        });
        sentence("It changes nothing.", () -> changesNothing("status", t -> t.status()));
    }

    private static void promise14() {
        heading("Promise 14: resultLength and resultAt");
        sentence("`resultLength()` answers the length of the result, in 0..L", () -> {
            for (int limit = 1; limit <= MOST; limit++) {
                TacitTrains t = parsed(limit, "]");
                for (int i = 0; i <= limit; i++) {
                    t.apply(MONAD);
                    due("resultLength of " + i + " elements", t.resultLength(), i);
                    t.pushArg(Y, i);
                }
            }
        });
        sentence("it is 0 at the start and after a failed apply", () -> {
            TacitTrains t = new TacitTrains(4);
            due("resultLength at the start", t.resultLength(), 0);
            t = ready(4, ",", v(1, 2), v(3, 4, 5));
            due("resultLength before apply", t.resultLength(), 0);
            t.apply(MONAD);
            due("resultLength after a success", t.resultLength(), 3);
            t.apply(DYAD);
            due("resultLength after a failure", t.resultLength(), 0);
        });
        sentence("`resultAt(int i)` answers element i of the result", () -> {
            TacitTrains t = ready(MOST, "]", NONE, run(MAX - 15, MOST));
            t.apply(MONAD);
            for (int i = 0; i < MOST; i++) {
                due("resultAt(" + i + ")", t.resultAt(i), MAX - 15 + i);
            }
        });
        sentence("and 0 when i < 0", () -> {
            TacitTrains t = ready(MOST, "]", run(200, MOST), run(100, MOST));
            for (int i : v(MIN, MIN + 1, -65536, -17, -16, -2, -1)) {
                due("resultAt(" + i + ") before any apply", t.resultAt(i), 0);
            }
            t.apply(MONAD);
            for (int i : v(MIN, MIN + 1, -65536, -17, -16, -2, -1)) {
                due("resultAt(" + i + ")", t.resultAt(i), 0);
            }
        });
        sentence("or i >= resultLength()", () -> {
            TacitTrains t = ready(MOST, "[", v(1, 2), run(100, MOST));
            nothingFrom(0, t, "before any apply");
            t.apply(MONAD);
            nothingFrom(MOST, t, "of a full result");
            t.apply(DYAD);
            due("the shorter result", result(t), list(1, 2));
            nothingFrom(2, t, "of a shorter result behind a longer one");
            t.clearText();
            putText(t, "+");
            t.parse();
            due("the failing apply", t.apply(DYAD), LENGTH);
            nothingFrom(0, t, "after a failure");
        });
        sentence("The result stays as the last apply that was not refused left it, "
            + "whatever happens to the text, the train or the arguments.", () -> {
                TacitTrains t = ready(4, "[", v(1, 2), v(3, 4, 5, 6));
                t.apply(DYAD);
                t.clearArgs();
                due("the result after clearArgs", result(t), list(1, 2));
                push(t, X, 8, 9);
                push(t, Y, 7, 7, 7, 7);
                due("the result after pushArg", result(t), list(1, 2));
                t.apply(0);
                due("the result after a bad mode", result(t), list(1, 2));
                t.clearText();
                due("the result after clearText", result(t), list(1, 2));
                t.apply(MONAD);
                due("the result after an apply without a train", result(t), list(1, 2));
                putText(t, "|/");
                due("the result after putChar", result(t), list(1, 2));
                t.parse();
                due("the result after parse", result(t), list(1, 2));
                t.putChar(')');
                t.parse();
                due("the result after a rejected parse", result(t), list(1, 2));
            });
        sentence("Neither method changes anything.", () -> {
            changesNothing("resultLength", t -> t.resultLength());
            for (int i : v(MIN, -1, 0, 1, 15, 16, MAX)) {
                changesNothing("resultAt(" + i + ")", t -> t.resultAt(i));
            }
        });
    }

    private static void nothingFrom(int first, TacitTrains t, String when) {
        for (int i = first; i <= 2 * MOST + 1; i++) {
            due("resultAt(" + i + ") " + when, t.resultAt(i), 0);
        }
        for (int i : v(256, 65536, MAX - 1, MAX)) {
            due("resultAt(" + i + ") " + when, t.resultAt(i), 0);
        }
    }
}
