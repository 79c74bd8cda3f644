import java.util.Random;

/** The program against the reference: every short text, made-up trains, and made-up runs of calls. */
public final class ReferenceTest extends Checks {
    private static final String VERBS = "+-*<>[]#,|";
    private static final int[] SPECIAL = {
        0, 1, -1, 2, -2, 3, 15, 16, 17, Integer.MAX_VALUE, Integer.MIN_VALUE, Integer.MAX_VALUE - 1, 65536};

    public static void main(String[] args) {
        shortTexts("", 4);
        madeUpTrains();
        madeUpRuns();
        finish();
    }

    private static void shortTexts(String text, int room) {
        TacitTrains t = withText(3, text);
        Reference r = new Reference(3);
        text.chars().forEach(c -> r.putChar((char) c));
        due("parse of " + text, t.parse(), r.parse());
        due("canon of " + text, canon(t), r.canon());
        for (int i = 0; room > 0 && i < ALPHABET.length(); i++) {
            shortTexts(text + ALPHABET.charAt(i), room - 1);
        }
    }

    // The seeds are fixed, so every run of this test is the same.
    private static void madeUpTrains() {
        Random random = new Random(20261115);
        int accepted = 0;
        int[] seen = new int[4];
        int longest = 0;
        for (int i = 0; i < 200000; i++) {
            int limit = random.nextInt(4) == 0 ? 16 : 1 + random.nextInt(16);
            TacitTrains t = new TacitTrains(limit);
            Reference r = new Reference(limit);
            String text = spoiled(random, filled(random, madeUpTrain(random, 1 + random.nextInt(4), 0)));
            text.chars().forEach(c -> due("putChar into " + text, t.putChar((char) c), r.putChar((char) c)));
            pushMadeUp(random, t, r, limit, TacitTrains.ARG_X);
            pushMadeUp(random, t, r, limit, TacitTrains.ARG_Y);
            String before = r.shown();
            due("parse of " + text, t.parse(), r.parse());
            accepted += t.hasTrain() ? 1 : 0;
            longest = Math.max(longest, t.canonLength());
            for (int mode = TacitTrains.MONAD; mode <= TacitTrains.DYAD; mode++) {
                int status = t.apply(mode);
                due("apply(" + mode + ") of " + text + " after " + before, status, r.apply(mode));
                due("the object after it", shown(t), r.shown());
                if (status < seen.length) {
                    seen[status]++;
                }
            }
        }
        due("the longest canonical form", longest, TacitTrains.MAX_CANON);
        due("enough texts are accepted", accepted > 100000, true);
        for (int status = 0; status < seen.length; status++) {
            due("status " + status + " is seen often", seen[status] > 1000, true);
        }
    }

    private static String madeUpTrain(Random random, int most, int depth) {
        StringBuilder s = new StringBuilder();
        int words = 1 + random.nextInt(most);
        for (int i = 0; i < words; i++) {
            s.append(madeUpPrimary(random, depth));
            while (random.nextInt(5) == 0) {
                s.append('@').append(madeUpPrimary(random, depth));
            }
            if (random.nextInt(6) == 0) {
                s.append("/\\\"".charAt(random.nextInt(3)));
            }
        }
        return s.toString();
    }

    private static String madeUpPrimary(Random random, int depth) {
        if (depth < 4 && random.nextInt(4) == 0) {
            return "(" + madeUpTrain(random, 4, depth + 1) + ")";
        }
        return random.nextInt(8) == 0 ? "" + random.nextInt(10) : "" + VERBS.charAt(random.nextInt(VERBS.length()));
    }

    /** Now and then, so many words more that the text is full. */
    private static String filled(Random random, String text) {
        if (random.nextInt(8) > 0) {
            return text;
        }
        StringBuilder s = new StringBuilder(text);
        while (s.length() < TacitTrains.MAX_TEXT) {
            s.append(VERBS.charAt(random.nextInt(VERBS.length())));
        }
        return s.toString();
    }

    private static String spoiled(Random random, String text) {
        if (random.nextInt(6) > 0) {
            return text;
        }
        int i = random.nextInt(text.length());
        return text.substring(0, i) + ALPHABET.charAt(random.nextInt(ALPHABET.length())) + text.substring(i + 1);
    }

    private static void pushMadeUp(Random random, TacitTrains t, Reference r, int limit, int which) {
        int count = random.nextInt(3) == 0 ? random.nextInt(2) : random.nextInt(Math.min(limit, 5) + 1);
        if (random.nextInt(10) == 0) {
            count = limit + 1;
        }
        for (int i = 0; i < count; i++) {
            int value = madeUpValue(random);
            due("pushArg", t.pushArg(which, value), r.pushArg(which, value));
        }
    }

    private static int madeUpValue(Random random) {
        return random.nextInt(4) > 0 ? random.nextInt(5) : SPECIAL[random.nextInt(SPECIAL.length)];
    }

    private static void madeUpRuns() {
        Random random = new Random(14);
        for (int run = 0; run < 3000; run++) {
            int limit = random.nextInt(24) - 3;
            TacitTrains t = new TacitTrains(limit);
            Reference r = new Reference(limit);
            for (int call = 0; call < 100; call++) {
                String what = "run " + run + ", call " + call;
                madeUpCall(random, what, t, r);
                due(what + ", the object after it", shown(t), r.shown());
            }
        }
    }

    private static void madeUpCall(Random random, String what, TacitTrains t, Reference r) {
        int pick = random.nextInt(40);
        if (pick < 16) {
            char c = pick == 0 ? (char) random.nextInt(128)
                : pick < 5 ? ALPHABET.charAt(random.nextInt(ALPHABET.length()))
                : VERBS.charAt(random.nextInt(VERBS.length()));
            due(what + ", putChar", t.putChar(c), r.putChar(c));
        } else if (pick < 22) {
            due(what + ", parse", t.parse(), r.parse());
        } else if (pick < 28) {
            int which = random.nextInt(8) == 0 ? random.nextInt(6) - 2 : random.nextInt(2);
            int value = madeUpValue(random);
            due(what + ", pushArg", t.pushArg(which, value), r.pushArg(which, value));
        } else if (pick < 35) {
            int mode = random.nextInt(8) == 0 ? random.nextInt(8) - 2 : 1 + random.nextInt(2);
            due(what + ", apply", t.apply(mode), r.apply(mode));
        } else if (pick < 36) {
            int i = random.nextInt(70) - 3;
            due(what + ", argLength", t.argLength(i), r.argLength(i));
            due(what + ", canonChar", (int) t.canonChar(i), r.canonChar(i));
            due(what + ", resultAt", t.resultAt(i), r.resultAt(i));
        } else if (pick < 38) {
            t.clearText();
            r.clearText();
        } else {
            t.clearArgs();
            r.clearArgs();
        }
    }
}
