import java.util.Random;

/** The program against the reference: every short text, every short train on small vectors, and made-up trains. */
public final class ReferenceTest extends MadeUp {
    private static final int[][] SMALL = {
        {}, {0}, {1}, {2}, {-1}, {MAX}, {MIN}, {2, 1}, {0, -1}, {-1, 3}, {1, 0, 2}, {3, MIN, MAX}};

    public static void main(String[] args) {
        shortTexts("", 4);
        shortTrains("", 3);
        nestedAdverbs();
        madeUpTrains();
        finish();
    }

    private static void shortTexts(String text, int room) {
        Both both = new Both(3);
        both.putText(text);
        both.parse();
        both.same();
        for (int i = 0; room > 0 && i < ALPHABET.length(); i++) {
            shortTexts(text + ALPHABET.charAt(i), room - 1);
        }
    }

    private static void shortTrains(String text, int room) {
        for (int limit = 2; limit <= 4; limit++) {
            Both both = new Both(limit);
            both.putText(text);
            if (both.parse()) {
                onSmallVectors(both);
            }
        }
        for (int i = 0; room > 0 && i < ALPHABET.length(); i++) {
            shortTrains(text + ALPHABET.charAt(i), room - 1);
        }
    }

    private static void onSmallVectors(Both both) {
        for (int[] x : SMALL) {
            for (int[] y : SMALL) {
                both.clearArgs();
                pushAll(both, X, x);
                pushAll(both, Y, y);
                both.apply(MONAD);
                both.same();
                both.apply(DYAD);
                both.same();
            }
        }
    }

    private static void pushAll(Both both, int which, int[] values) {
        for (int value : values) {
            both.pushArg(which, value);
        }
    }

    /** One adverb inside another, both over 16 elements, and as long a train inside as the text has room for. */
    private static void nestedAdverbs() {
        for (String adverbs : new String[] {"//", "/\\", "/\"", "\\/", "\\\\", "\\\"", "\"/", "\"\\", "\"\""}) {
            for (char verb : "+-*<>]".toCharArray()) {
                String inner = "(" + ("" + verb).repeat(16) + ")" + adverbs.charAt(0);
                Both both = new Both(MOST);
                both.putText("(" + inner + "@((8+8)#]))" + adverbs.charAt(1));
                due("parse of the full text", both.parse(), true);
                due("its length", both.program.textLength(), TacitTrains.MAX_TEXT);
                pushAll(both, X, run(-5, MOST));
                pushAll(both, Y, run(3, MOST));
                both.apply(MONAD);
                both.same();
                both.apply(DYAD);
                both.same();
            }
        }
    }

    // The seed is fixed, so every run of this test is the same.
    private static void madeUpTrains() {
        Random random = new Random(20261115);
        int accepted = 0;
        int[] seen = new int[4];
        int longest = 0;
        for (int i = 0; i < 200000; i++) {
            int limit = random.nextInt(4) == 0 ? MOST : 1 + random.nextInt(MOST);
            Both both = new Both(limit);
            both.putText(madeUpText(random));
            pushMadeUp(random, both, limit, X);
            pushMadeUp(random, both, limit, Y);
            accepted += both.parse() ? 1 : 0;
            longest = Math.max(longest, both.program.canonLength());
            for (int mode = MONAD; mode <= DYAD; mode++) {
                int status = both.apply(mode);
                both.same();
                if (status < seen.length) {
                    seen[status]++;
                }
            }
        }
        due("the longest canonical form", longest, TacitTrains.MAX_CANON);
        due("enough texts are accepted", accepted > 100000, true);
        for (int status = 0; status < seen.length; status++) {
            due("status " + status + " is seen often", seen[status] > 1000, true);
        }
    }

    private static void pushMadeUp(Random random, Both both, int limit, int which) {
        int count = random.nextInt(3) == 0 ? random.nextInt(2) : random.nextInt(Math.min(limit, 5) + 1);
        if (random.nextInt(10) == 0) {
            count = limit + 1;
        }
        for (int i = 0; i < count; i++) {
            both.pushArg(which, madeUpValue(random));
        }
    }
}
