import java.util.Random;

/** The sentences under 'What it is'. */
public final class OverviewTest extends MadeUp {
    public static void main(String[] args) {
        heading("What it is");
        textAndTrain();
        vectorsAndSteps();
        modesAndStatuses();
        greatestNumbers();
        finish();
    }

    private static void textAndTrain() {
        sentence("A text of at most 32 characters is fed one character per call and parsed into a train.", () -> {
            for (int length = 1; length <= 32; length++) {
                TacitTrains t = withText(3, ">".repeat(length));
                due("textLength after " + length + " calls", t.textLength(), length);
                due("hasTrain before parse", t.hasTrain(), false);
                due("parse", t.parse(), true);
                due("hasTrain after parse", t.hasTrain(), true);
            }
            due("putChar number 33", withText(3, ">".repeat(32)).putChar('>'), false);
        });
        sentence("The held train can be read back as a canonical text (see Canonical form).", () -> {
            Random random = new Random(26);
            for (int i = 0; i < 20000; i++) {
                TacitTrains t = new TacitTrains(5);
                putText(t, madeUpText(random));
                if (t.parse() && t.canonLength() <= TacitTrains.MAX_TEXT) {
                    readsBack(random, t);
                }
            }
        });
    }

    /** By the grammar, a canonical form that fits into a text denotes the train that it was read from. */
    private static void readsBack(Random random, TacitTrains t) {
        TacitTrains again = parsed(t.limit(), canon(t));
        due("canonical form of a canonical form", canon(again), canon(t));
        for (int i = 0; i < 4; i++) {
            int which = random.nextInt(2);
            int value = madeUpValue(random);
            push(t, which, value);
            push(again, which, value);
        }
        for (int mode : v(MONAD, DYAD)) {
            due("apply of " + canon(t), again.apply(mode), t.apply(mode));
            due("the result of " + canon(t), result(again), result(t));
        }
    }

    private static void vectorsAndSteps() {
        sentence("The held train is applied either to one argument vector y (monadic use) "
            + "or to two argument vectors x and y (dyadic use).", () -> {
                TacitTrains t = ready(4, "-", v(10), v(3, 4));
                applied(t, "- [3, 4]", MONAD, OK, -3, -4);
                applied(t, "[10] - [3, 4]", DYAD, OK, 7, 6);
            });
        sentence("Every vector holds 0..L ints, where L, the limit, is fixed by the constructor and lies in 1..16.",
            () -> {
                for (int limit = -20; limit <= 40; limit++) {
                    holdsUpToLimit(new TacitTrains(limit), Math.max(1, Math.min(16, limit)));
                }
            });
        sentence("Each application runs its steps in a fixed order, and the first failing step decides the error code.",
            () -> {
                // Each of the three primitives fails with a code of its own: the fork runs its right end first.
                TacitTrains t = new TacitTrains(4);
                push(t, X, -1, 1, 1);
                push(t, Y, 1, 2, 3);
                for (String order : new String[] {"#,|1", "|,#2", "#|,3", ",|#2", ",#|1", "|#,3"}) {
                    t.clearText();
                    putText(t, order.substring(0, 3));
                    due("parse of " + order.substring(0, 3), t.parse(), true);
                    applied(t, order.substring(0, 3), DYAD, order.charAt(3) - '0');
                }
            });
    }

    private static void holdsUpToLimit(TacitTrains t, int limit) {
        due("limit", t.limit(), limit);
        putText(t, "+");
        t.parse();
        for (int length = 0; length <= limit; length++) {
            due("length of x", t.argLength(X), length);
            due("length of y", t.argLength(Y), length);
            due("apply", t.apply(DYAD), OK);
            due("length of the result", t.resultLength(), length);
            due("pushArg of x when it holds " + length, t.pushArg(X, 1), length < limit);
            due("pushArg of y when it holds " + length, t.pushArg(Y, 1), length < limit);
        }
        due("limit at the end", t.limit(), limit);
    }

    private static void modesAndStatuses() {
        sentence("`MONAD = 1`, `DYAD = 2`: the modes for `apply`.", () -> {
            TacitTrains t = ready(4, "[", v(10, 11), v(20));
            due("apply(1)", t.apply(1), OK);
            due("its result", result(t), list(20));
            due("apply(2)", t.apply(2), OK);
            due("its result", result(t), list(10, 11));
        });
        sentence("`ARG_X = 0`, `ARG_Y = 1`: select vector x or vector y.", () -> {
            TacitTrains t = parsed(4, "-");
            due("pushArg(0, 10)", t.pushArg(0, 10), true);
            due("pushArg(1, 3)", t.pushArg(1, 3), true);
            applied(t, "[10] - [3]", DYAD, OK, 7);
        });
        sentence("`OK = 0`, `ERR_LENGTH = 1`, `ERR_DOMAIN = 2`, `ERR_LIMIT = 3`: statuses set by `apply`.", () -> {
            dyadAt(4, v(1, 1), "#", v(5, 6), 0, 5, 6);
            dyadAt(4, v(1, 1), "#", v(5, 6, 7), 1);
            dyadAt(4, v(1, -1), "#", v(5, 6), 2);
            dyadAt(4, v(1, 4), "#", v(5, 6), 3);
        });
        sentence("`NO_TRAIN = 4`, `BAD_MODE = 5`: answers of a refused `apply`.", () -> {
            due("apply without a train", new TacitTrains(4).apply(MONAD), 4);
            due("apply in no mode", parsed(4, "+").apply(3), 5);
        });
        sentence("`NOT_RUN = 6`: the status before any `apply` that was not refused.", () -> {
            TacitTrains t = new TacitTrains(4);
            due("status of a new object", t.status(), 6);
            t.apply(MONAD);
            t.apply(0);
            due("status after refused calls alone", t.status(), 6);
        });
    }

    private static void greatestNumbers() {
        sentence("`MAX_TEXT = 32`: the most characters the text can hold.", () -> {
            TacitTrains t = new TacitTrains(4);
            for (int i = 0; i < 100; i++) {
                due("putChar number " + (i + 1), t.putChar('('), i < 32);
            }
            due("textLength", t.textLength(), 32);
        });
        sentence("`MAX_CANON = 64`: the most characters of a canonical form.", () -> {
            due("canonLength of 32 words", parsed(4, "+".repeat(32)).canonLength(), 64);
            due("canonLength of 31 words", parsed(4, "+".repeat(31)).canonLength(), 61);
        });
        sentence("`MAX_ADVERBS = 2`: the most adverb characters in an accepted text.", () -> {
            due("parse of +/-\\", withText(4, "+/-\\").parse(), true);
            due("parse of +/-\\*\"", withText(4, "+/-\\*\"").parse(), false);
        });
        sentence("`MAX_LIMIT = 16`: the greatest value of L.", () -> {
            for (int limit : v(16, 17, 255, 65536, MAX)) {
                due("limit() for " + limit, new TacitTrains(limit).limit(), 16);
            }
            due("limit() for 15", new TacitTrains(15).limit(), 15);
        });
    }
}
