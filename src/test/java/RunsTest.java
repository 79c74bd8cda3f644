import java.util.List;
import java.util.Random;
import java.util.function.Consumer;

/** Runs of calls on one object, in any order and number and refused ones among them, against the reference. */
public final class RunsTest extends MadeUp {
    /** The calls of the short runs: each kind of call, taken and refused. */
    private static final List<Consumer<Both>> CALLS = List.of(
        both -> both.putChar('+'),
        both -> both.putChar('/'),
        both -> both.putChar('#'),
        both -> both.putChar(','),
        both -> both.putChar('@'),
        both -> both.putChar(' '),
        both -> both.clearText(),
        both -> both.parse(),
        both -> both.pushArg(X, 2),
        both -> both.pushArg(Y, -1),
        both -> both.pushArg(2, 5),
        both -> both.clearArgs(),
        both -> both.apply(MONAD),
        both -> both.apply(DYAD),
        both -> both.apply(0));

    private static final List<Consumer<Both>> STARTS = List.of(
        both -> { },
        both -> both.putText("+,"),
        RunsTest::applied,
        RunsTest::failed,
        RunsTest::full);

    public static void main(String[] args) {
        heading("Not promised");
        sentence("every answer and every status and result equal those described above for every sequence of calls",
            () -> {
                everyShortRun();
                manyRuns();
                longRuns();
            });
        finish();
    }

    // ---- every run of a few calls, from objects that are already under way

    private static void applied(Both both) {
        both.putText("[,]");
        both.parse();
        both.pushArg(X, 3);
        both.pushArg(Y, 4);
        both.apply(DYAD);
    }

    private static void failed(Both both) {
        both.putText("#");
        both.parse();
        both.pushArg(X, -3);
        both.pushArg(Y, 4);
        both.apply(MONAD);
        both.apply(DYAD);
    }

    private static void full(Both both) {
        both.putText("+".repeat(TacitTrains.MAX_TEXT));
        both.parse();
        for (int i = 0; i < both.program.limit(); i++) {
            both.pushArg(X, i);
            both.pushArg(Y, -i);
        }
        both.apply(MONAD);
    }

    private static void everyShortRun() {
        for (Consumer<Both> start : STARTS) {
            for (int length = 0; length <= 4; length++) {
                everyRun(start, length);
            }
        }
    }

    private static void everyRun(Consumer<Both> start, int length) {
        int runs = 1;
        for (int i = 0; i < length; i++) {
            runs *= CALLS.size();
        }
        for (int run = 0; run < runs; run++) {
            Both both = new Both(2);
            start.accept(both);
            int rest = run;
            for (int i = 0; i < length; i++) {
                CALLS.get(rest % CALLS.size()).accept(both);
                rest /= CALLS.size();
            }
            both.same();
        }
    }

    // ---- made-up runs; the seeds are fixed, so every run of this test is the same

    private static void manyRuns() {
        Random random = new Random(14);
        for (int run = 0; run < 3000; run++) {
            Both both = new Both(random.nextInt(24) - 3);
            for (int call = 0; call < 100; call++) {
                madeUpCall(random, both);
                both.same();
            }
        }
    }

    /** Several objects in turn, so that what one of them leaves behind in another would be seen too. */
    private static void longRuns() {
        Random random = new Random(8);
        List<Both> objects = List.of(new Both(1), new Both(2), new Both(7), new Both(16), new Both(MAX), new Both(MIN));
        int[] seen = new int[TacitTrains.NOT_RUN];
        for (int call = 0; call < 300000; call++) {
            Both both = objects.get(random.nextInt(objects.size()));
            if (random.nextInt(20) == 0) {
                both.clearText();
                both.putText(madeUpText(random));
                both.parse();
            } else {
                madeUpCall(random, both);
            }
            both.same();
            objects.get(random.nextInt(objects.size())).same();
            seen[both.apply(madeUpMode(random))]++;
        }
        for (int answer = 0; answer < seen.length; answer++) {
            due("apply answers " + answer + " often", seen[answer] > 1000, true);
        }
    }

    private static int madeUpMode(Random random) {
        return random.nextInt(8) == 0 ? random.nextInt(8) - 2 : 1 + random.nextInt(2);
    }

    private static char madeUpChar(Random random, int pick) {
        if (pick == 0) {
            return (char) random.nextInt(128);
        }
        String from = pick < 5 ? ALPHABET : VERBS;
        return from.charAt(random.nextInt(from.length()));
    }

    private static void madeUpCall(Random random, Both both) {
        int pick = random.nextInt(40);
        if (pick < 16) {
            both.putChar(madeUpChar(random, pick));
        } else if (pick < 22) {
            both.parse();
        } else if (pick < 28) {
            int which = random.nextInt(8) == 0 ? random.nextInt(6) - 2 : random.nextInt(2);
            both.pushArg(which, madeUpValue(random));
        } else if (pick < 35) {
            both.apply(madeUpMode(random));
        } else if (pick < 36) {
            both.readAt(random.nextInt(4) == 0 ? madeUpValue(random) : random.nextInt(70) - 3);
        } else if (pick < 38) {
            both.clearText();
        } else {
            both.clearArgs();
        }
    }
}
