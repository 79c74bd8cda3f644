import java.util.Random;

/** Texts and values made up from a random source that the test starts from a fixed seed. */
abstract class MadeUp extends Checks {
    static final String VERBS = "+-*<>[]#,|";
    private static final int[] SPECIAL = {0, 1, -1, 2, -2, 3, 15, 16, 17, MAX, MIN, MAX - 1, 65536};

    /** Mostly a text that matches the grammar; it may be too long or have too many adverbs. */
    static String madeUpText(Random random) {
        String train = madeUpTrain(random, 1 + random.nextInt(4), 0);
        return spoiled(random, filled(random, train));
    }

    private static String madeUpTrain(Random random, int most, int depth) {
        StringBuilder s = new StringBuilder();
        int words = 1 + random.nextInt(most);
        for (int i = 0; i < words; i++) {
            s.append(madeUpPrimary(random, depth));
            while (random.nextInt(5) == 0) {
                s.append('@').append(madeUpPrimary(random, depth));
            }
            if (random.nextInt(6) == 0) {
                s.append("/\\\"".charAt(random.nextInt(3)));
            }
        }
        return s.toString();
    }

    private static String madeUpPrimary(Random random, int depth) {
        if (depth < 4 && random.nextInt(4) == 0) {
            return "(" + madeUpTrain(random, 4, depth + 1) + ")";
        }
        return random.nextInt(8) == 0 ? "" + random.nextInt(10) : "" + VERBS.charAt(random.nextInt(VERBS.length()));
    }

    /** Now and then, so many words more that the text is full. */
    private static String filled(Random random, String text) {
        if (random.nextInt(8) > 0) {
            return text;
        }
        StringBuilder s = new StringBuilder(text);
        while (s.length() < TacitTrains.MAX_TEXT) {
            s.append(VERBS.charAt(random.nextInt(VERBS.length())));
        }
        return s.toString();
    }

    private static String spoiled(Random random, String text) {
        if (random.nextInt(6) > 0) {
            return text;
        }
        int i = random.nextInt(text.length());
        return text.substring(0, i) + ALPHABET.charAt(random.nextInt(ALPHABET.length())) + text.substring(i + 1);
    }

    static int madeUpValue(Random random) {
        return random.nextInt(4) > 0 ? random.nextInt(5) : SPECIAL[random.nextInt(SPECIAL.length)];
    }
}
