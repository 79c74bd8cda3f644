import java.util.List;
import java.util.function.Consumer;
import java.util.function.Function;
import java.util.function.Supplier;

/** Objects in many states, made in pairs: what a call changes is seen beside the twin that it was not made on. */
abstract class Twins extends Checks {
    static final List<Supplier<TacitTrains>> STATES = List.of(
        () -> new TacitTrains(3),
        () -> withText(3, "+@("),
        () -> withText(3, "+/-"),
        Twins::rejected,
        () -> ready(5, "[,+/", v(1, 2), v(3, 4, 5)),
        Twins::busy,
        Twins::failed,
        Twins::full,
        Twins::discarded,
        Twins::cleared);

    /** A text that was rejected, beside arguments. */
    private static TacitTrains rejected() {
        TacitTrains t = withText(2, "(+/\\-\"");
        push(t, X, 7);
        due("parse of the rejected text", t.parse(), false);
        return t;
    }

    /** Every part is other than at the start. */
    static TacitTrains busy() {
        TacitTrains t = ready(5, "[,+/", v(1, 2), v(3, 4, 5));
        due("apply of the busy object", t.apply(MONAD), OK);
        return t;
    }

    static final String BUSY_REST = "x 2, y 3, status 0, result [3, 4, 5, 12]";

    /** A success with a result, then a failure. */
    private static TacitTrains failed() {
        TacitTrains t = ready(4, "#", v(1, -1), v(3, 4));
        due("monadic apply of the failed object", t.apply(MONAD), OK);
        due("dyadic apply of the failed object", t.apply(DYAD), DOMAIN);
        return t;
    }

    /** The text, the canonical form, both arguments and the result are as long as they can be. */
    private static TacitTrains full() {
        TacitTrains t = ready(MOST, ">".repeat(TacitTrains.MAX_TEXT), run(MIN, MOST), run(MAX - 20, MOST));
        due("apply of the full object", t.apply(DYAD), OK);
        return t;
    }

    /** The train that left the result was discarded. */
    private static TacitTrains discarded() {
        TacitTrains t = busy();
        due("putChar that discards", t.putChar('@'), true);
        return t;
    }

    /** The result outlived its text and its arguments. */
    private static TacitTrains cleared() {
        TacitTrains t = busy();
        t.clearText();
        t.clearArgs();
        return t;
    }

    static void keeps(String what, Consumer<TacitTrains> call, Function<TacitTrains, String> part) {
        for (Supplier<TacitTrains> state : STATES) {
            TacitTrains touched = state.get();
            TacitTrains twin = state.get();
            String before = shown(twin);
            call.accept(touched);
            due(what + " on {" + before + "}, what it keeps", part.apply(touched), part.apply(twin));
        }
    }

    static void changesNothing(String what, Consumer<TacitTrains> call) {
        keeps(what, call, Twins::everything);
    }

    // ---- what the face shows only through further calls, which change the object

    /** The characters of the text, as far as parsing it with more characters at its end tells them. */
    static String heldText(TacitTrains t) {
        StringBuilder s = new StringBuilder("text:");
        for (char c : " +))".toCharArray()) {
            t.putChar(c);
            s.append(' ').append(t.parse()).append(' ').append(canon(t));
        }
        return s.toString();
    }

    static String heldArgs(TacitTrains t) {
        t.clearText();
        putText(t, "[");
        t.parse();
        t.apply(DYAD);
        String x = "x: " + result(t);
        t.apply(MONAD);
        return x + ", y: " + result(t);
    }

    private static String applications(TacitTrains t) {
        return "monad: " + t.apply(MONAD) + " " + shownResult(t) + ", dyad: " + t.apply(DYAD) + " " + shownResult(t);
    }

    static String everything(TacitTrains t) {
        return shown(t) + ", " + applications(t) + ", " + heldText(t) + ", " + heldArgs(t);
    }
}
