import java.util.function.IntBinaryOperator;
import java.util.function.IntUnaryOperator;

/** The sentences under 'Vectors' and 'Primitives'. */
public final class PrimitivesTest extends Checks {
    private static final String PAIRED = "+-*<>";
    private static final int[] EDGES = {MIN, MIN + 1, -65536, -2, -1, 0, 1, 2, 3, 46341, 65536, MAX - 1, MAX};

    public static void main(String[] args) {
        vectors();
        pairing();
        arithmetic();
        sides();
        copy();
        copyLimit();
        join();
        rotate();
        finish();
    }

    private static void vectors() {
        heading("Vectors");
        sentence("A vector is a sequence of 0..L ints.", () -> {
            for (int limit = 1; limit <= MOST; limit++) {
                monadAt(limit, "]", NONE, OK);
                monadAt(limit, "]", run(5, limit), OK, run(5, limit));
                dyadAt(limit, run(5, limit), "[", NONE, OK, run(5, limit));
                dyadAt(limit, run(5, limit), ",", v(1), LIMIT);
            }
        });
        sentence("All arithmetic wraps as Java int arithmetic (32-bit two's complement)", () -> {
            monad("+", v(MAX, MIN, 1 << 30), -2, 0, MIN);
            monad("<", v(MIN), MAX);
            dyad(v(MAX, MIN, MIN), "+", v(MAX, MIN, -1), -2, 0, MAX);
            dyad(v(MIN, MAX, 0), "-", v(1, -1, MIN), MAX, MIN, MIN);
            dyad(v(MIN, 65536, 46341, MAX), "*", v(-1, 65536, 46341, MAX), MIN, 0, -2147479015, 1);
            monad("+/", v(MAX, MAX, MAX, MAX), -4);
        });
        sentence("`Integer.MAX_VALUE + 1` gives `Integer.MIN_VALUE`", () -> {
            monad(">", v(MAX), MIN);
            dyad(v(MAX), "+", v(1), MIN);
            dyad(v(1), "+", v(MAX), MIN);
            dyad(v(MAX), "-", v(-1), MIN);
        });
        sentence("`0 - Integer.MIN_VALUE` gives `Integer.MIN_VALUE`", () -> {
            monad("-", v(MIN), MIN);
            dyad(v(0), "-", v(MIN), MIN);
            monad("0-]", v(MIN), MIN);
        });
    }

    private static void pairing() {
        heading("Primitives");
        sentence("if n = m, pair x[i] with y[i] (m pairs)", () -> {
            for (int m = 0; m <= MOST; m++) {
                paired(run(100, m), run(3, m), m, 1, 1);
            }
        });
        sentence("else if n = 1, pair x[0] with each y[i] (m pairs)", () -> {
            for (int m = 0; m <= MOST; m++) {
                paired(v(100), run(3, m), m, 0, 1);
            }
        });
        sentence("else if m = 1, pair each x[i] with y[0] (n pairs)", () -> {
            for (int n = 0; n <= MOST; n++) {
                paired(run(100, n), v(3), n, 1, 0);
            }
        });
        sentence("else fail ERR_LENGTH", () -> {
            for (int n = 0; n <= MOST; n++) {
                for (int m = 0; m <= MOST; m++) {
                    if (n != m && n != 1 && m != 1) {
                        pairingFails(run(1, n), run(1, m));
                    }
                }
            }
        });
        sentence("a paired result gives z[i] from pair i", () -> {
            dyad(v(1, 20, 300), "-", v(5, 6, 7), -4, 14, 293);
            dyad(v(1), "-", v(5, 6, 7), -4, -5, -6);
            dyad(v(1, 20, 300), "-", v(5), -4, 15, 295);
        });
    }

    /** All five paired verbs, with x and y going on by a step of 1 or standing still. */
    private static void paired(int[] x, int[] y, int pairs, int stepX, int stepY) {
        for (char verb : PAIRED.toCharArray()) {
            int[] values = new int[pairs];
            for (int i = 0; i < pairs; i++) {
                values[i] = dyadOf(verb).applyAsInt(x[i * stepX], y[i * stepY]);
            }
            dyad(x, "" + verb, y, values);
        }
    }

    private static void pairingFails(int[] x, int[] y) {
        for (char verb : PAIRED.toCharArray()) {
            dyadFails(x, "" + verb, y, LENGTH);
        }
    }

    private static IntBinaryOperator dyadOf(char verb) {
        return switch (verb) {
            case '+' -> (a, b) -> a + b;
            case '-' -> (a, b) -> a - b;
            case '*' -> (a, b) -> a * b;
            case '<' -> (a, b) -> Math.min(a, b);
            default -> (a, b) -> Math.max(a, b);
        };
    }

    private static void arithmetic() {
        sentence("`+` monad: z[i] = y[i] + y[i].", () -> mapped("+", y -> y + y));
        sentence("`-` monad: z[i] = 0 - y[i].", () -> mapped("-", y -> 0 - y));
        sentence("`*` monad: z[i] = -1, 0 or 1 by the sign of y[i].", () -> mapped("*", y -> Integer.signum(y)));
        sentence("`<` monad: z[i] = y[i] - 1.", () -> mapped("<", y -> y - 1));
        sentence("`>` monad: z[i] = y[i] + 1.", () -> mapped(">", y -> y + 1));
        sentence("Dyad: paired a + b.", () -> pairedAtEdges('+'));
        sentence("Dyad: paired a - b.", () -> pairedAtEdges('-'));
        sentence("Dyad: paired a * b.", () -> pairedAtEdges('*'));
        sentence("Dyad: paired smaller of a, b.", () -> pairedAtEdges('<'));
        sentence("Dyad: paired greater of a, b.", () -> pairedAtEdges('>'));
    }

    private static void mapped(String verb, IntUnaryOperator operator) {
        int[] values = new int[EDGES.length];
        for (int i = 0; i < values.length; i++) {
            values[i] = operator.applyAsInt(EDGES[i]);
        }
        monad(verb, EDGES, values);
        monad(verb, NONE);
        monadAt(1, verb, v(MIN), OK, operator.applyAsInt(MIN));
        monadAt(MOST, verb, repeated(7, MOST), OK, repeated(operator.applyAsInt(7), MOST));
    }

    private static void pairedAtEdges(char verb) {
        IntBinaryOperator operator = dyadOf(verb);
        for (int a : EDGES) {
            int[] values = new int[EDGES.length];
            for (int i = 0; i < values.length; i++) {
                values[i] = operator.applyAsInt(a, EDGES[i]);
            }
            dyad(v(a), "" + verb, EDGES, values);
            dyad(repeated(a, EDGES.length), "" + verb, EDGES, values);
        }
        dyadAt(1, v(7), "" + verb, v(-4), OK, operator.applyAsInt(7, -4));
    }

    private static void sides() {
        sentence("`[` monad: y. Dyad: x.", () -> {
            for (int n : v(0, 1, 2, 16)) {
                monad("[", run(4, n), run(4, n));
                for (int m : v(0, 1, 3, 16)) {
                    dyad(run(4, n), "[", run(70, m), run(4, n));
                }
            }
        });
        sentence("`]` monad: y. Dyad: y.", () -> {
            for (int m : v(0, 1, 2, 16)) {
                monad("]", run(4, m), run(4, m));
                for (int n : v(0, 1, 3, 16)) {
                    dyad(run(70, n), "]", run(4, m), run(4, m));
                }
            }
        });
        sentence("`#` monad: [m].", () -> {
            for (int m = 0; m <= MOST; m++) {
                monad("#", run(-3, m), m);
            }
            monadAt(1, "#", NONE, OK, 0);
            monadAt(1, "#", v(8), OK, 1);
        });
        sentence("`,` monad: y.", () -> {
            for (int m : v(0, 1, 2, 16)) {
                monad(",", run(4, m), run(4, m));
            }
        });
        sentence("`|` monad: y reversed.", () -> {
            monad("|", NONE);
            monad("|", v(5), 5);
            monad("|", v(5, 6), 6, 5);
            monad("|", v(5, 6, 7), 7, 6, 5);
            monad("|", v(1, 2, 3, 4, 5, 6, 7, 8, 9, 10, 11, 12, 13, 14, 15, 16),
                16, 15, 14, 13, 12, 11, 10, 9, 8, 7, 6, 5, 4, 3, 2, 1);
        });
    }

    private static void copy() {
        sentence("the counts are c[i] = x[i] if n = m", () -> {
            dyad(v(2, 0, 1), "#", v(7, 8, 9), 7, 7, 9);
            dyad(v(3), "#", v(7), 7, 7, 7);
            dyad(v(0, 0), "#", v(7, 8));
            dyad(NONE, "#", NONE);
            dyad(repeated(1, 16), "#", run(7, 16), run(7, 16));
        });
        sentence("else x[0] if n = 1", () -> {
            dyad(v(2), "#", v(7, 8), 7, 7, 8, 8);
            dyad(v(1), "#", run(7, 16), run(7, 16));
            dyad(v(0), "#", v(7, 8));
            // No element asks for its count, so no count is too small or too large.
            dyad(v(2), "#", NONE);
            dyad(v(-1), "#", NONE);
            dyad(v(MIN), "#", NONE);
            dyad(v(MAX), "#", NONE);
        });
        sentence("c[i] = x[i] if n = m, else x[0] if n = 1, else fail ERR_LENGTH", () -> {
            for (int n = 0; n <= MOST; n++) {
                for (int m = 0; m <= MOST; m++) {
                    if (n != m && n != 1) {
                        dyadFails(repeated(0, n), "#", run(1, m), LENGTH);
                        dyadFails(repeated(-1, n), "#", run(1, m), LENGTH);
                        dyadFails(repeated(MAX, n), "#", run(1, m), LENGTH);
                    }
                }
            }
        });
        sentence("if c[i] < 0, fail ERR_DOMAIN", () -> {
            for (int count : v(-1, -2, -16, -65536, MIN + 1, MIN)) {
                dyadFails(v(count), "#", v(7), DOMAIN);
                dyadFails(v(count), "#", v(7, 8), DOMAIN);
                dyadFails(v(1, count), "#", v(7, 8), DOMAIN);
                dyadFails(v(16, count), "#", v(7, 8), DOMAIN);
                dyadFails(v(0, 0, count), "#", v(7, 8, 9), DOMAIN);
                dyadAt(1, v(count), "#", v(7), DOMAIN);
            }
        });
        sentence("Then for i = 0..m-1, in order", () -> {
            dyadFails(v(17, -1), "#", v(7, 8), LIMIT);
            dyadFails(v(-1, 17), "#", v(7, 8), DOMAIN);
            dyadFails(v(16, 1, -1), "#", v(7, 8, 9), LIMIT);
            dyadFails(v(16, -1, 1), "#", v(7, 8, 9), DOMAIN);
            dyadFails(v(1, MAX, MIN), "#", v(7, 8, 9), LIMIT);
            dyadFails(v(1, MIN, MAX), "#", v(7, 8, 9), DOMAIN);
            dyad(v(1, 2, 3), "#", v(7, 8, 9), 7, 8, 8, 9, 9, 9);
        });
    }

    private static void copyLimit() {
        sentence("if the number of elements appended so far plus c[i] exceeds L, fail ERR_LIMIT", () -> {
            for (int limit = 1; limit <= MOST; limit++) {
                dyadAt(limit, v(limit), "#", v(7), OK, repeated(7, limit));
                dyadAt(limit, v(limit + 1), "#", v(7), LIMIT);
            }
            for (int limit = 2; limit <= MOST; limit++) {
                for (int first = 0; first <= limit; first++) {
                    int rest = limit - first;
                    int[] filled = joined(repeated(7, first), repeated(8, rest));
                    dyadAt(limit, v(first, rest), "#", v(7, 8), OK, filled);
                    dyadAt(limit, v(first, rest + 1), "#", v(7, 8), LIMIT);
                }
            }
            dyadAt(4, v(2), "#", v(7, 8), OK, 7, 7, 8, 8);
            dyadAt(4, v(2), "#", v(7, 8, 9), LIMIT);
            dyadAt(4, v(4, 0), "#", v(7, 8), OK, 7, 7, 7, 7);
            dyadAt(4, v(4, 0, 0, 1), "#", v(7, 8, 9, 10), LIMIT);
        });
        sentence("append c[i] copies of y[i]", () -> {
            for (int count = 0; count <= MOST; count++) {
                dyad(v(count), "#", v(-5), repeated(-5, count));
            }
        });
        sentence("it fails ERR_LIMIT exactly when c[i] > L - (elements appended so far)", () -> {
            for (int limit : v(2, 3, 15, 16)) {
                for (int appended = 0; appended <= limit; appended++) {
                    for (int count = 0; count <= limit + 2; count++) {
                        boolean fits = count <= limit - appended;
                        int[] copies = fits ? joined(repeated(7, appended), repeated(8, count)) : NONE;
                        dyadAt(limit, v(appended, count), "#", v(7, 8), fits ? OK : LIMIT, copies);
                    }
                }
            }
        });
        sentence("so a huge count such as `Integer.MAX_VALUE` always fails ERR_LIMIT "
            + "and the result never exceeds L elements", () -> {
                for (int count : v(17, 256, 65536, 1 << 30, MAX - 16, MAX - 15, MAX - 1, MAX)) {
                    for (int limit = 1; limit <= MOST; limit++) {
                        dyadAt(limit, v(count), "#", v(7), LIMIT);
                    }
                    for (int appended = 0; appended <= MOST; appended++) {
                        dyadFails(v(appended, count), "#", v(7, 8), LIMIT);
                    }
                    dyadFails(v(count), "#", run(1, 16), LIMIT);
                }
            });
    }

    private static void join() {
        sentence("Dyad: x followed by y", () -> {
            dyad(v(1, 2), ",", v(3), 1, 2, 3);
            dyad(v(1), ",", v(2, 3), 1, 2, 3);
            dyad(NONE, ",", v(3), 3);
            dyad(v(3), ",", NONE, 3);
            dyad(NONE, ",", NONE);
        });
        sentence("if n + m > L, fail ERR_LIMIT", () -> {
            for (int limit = 1; limit <= MOST; limit++) {
                for (int n = 0; n <= limit; n++) {
                    for (int m = 0; m <= limit; m++) {
                        boolean fits = n + m <= limit;
                        int[] both = fits ? joined(run(1, n), run(50, m)) : NONE;
                        dyadAt(limit, run(1, n), ",", run(50, m), fits ? OK : LIMIT, both);
                    }
                }
            }
        });
    }

    private static void rotate() {
        sentence("Dyad (rotate): if n != 1, fail ERR_LENGTH.", () -> {
            for (int n = 0; n <= MOST; n++) {
                for (int m = 0; m <= MOST && n != 1; m++) {
                    dyadFails(repeated(0, n), "|", run(1, m), LENGTH);
                }
            }
        });
        sentence("If m = 0, the result is empty.", () -> {
            for (int k : EDGES) {
                dyad(v(k), "|", NONE);
            }
        });
        sentence("Else k = x[0] mod m, taken in 0..m-1, and z[i] = y[(i + k) mod m] for i = 0..m-1.", () -> {
            dyad(v(0), "|", v(1, 2, 3), 1, 2, 3);
            dyad(v(1), "|", v(1, 2, 3, 4), 2, 3, 4, 1);
            dyad(v(3), "|", v(1, 2, 3), 1, 2, 3);
            dyad(v(5), "|", v(1, 2, 3), 3, 1, 2);
            dyad(v(-1), "|", v(1, 2, 3), 3, 1, 2);
            dyad(v(-3), "|", v(1, 2, 3), 1, 2, 3);
            dyad(v(-4), "|", v(1, 2, 3), 3, 1, 2);
            dyad(v(MAX), "|", v(1, 2, 3), 2, 3, 1);
            dyad(v(MAX), "|", v(1, 2, 3, 4, 5), 3, 4, 5, 1, 2);
            dyad(v(MIN), "|", v(1, 2, 3), 2, 3, 1);
            dyad(v(MIN), "|", v(1, 2, 3, 4, 5), 3, 4, 5, 1, 2);
            for (int m = 1; m <= MOST; m++) {
                for (int k = -2 * MOST; k <= 2 * MOST; k++) {
                    rotated(k, m);
                }
                for (int k : EDGES) {
                    rotated(k, m);
                }
            }
        });
    }

    private static void rotated(int by, int m) {
        int[] values = new int[m];
        for (int i = 0; i < m; i++) {
            values[i] = 40 + (int) Math.floorMod((long) by + i, (long) m);
        }
        dyad(v(by), "|", run(40, m), values);
    }
}
