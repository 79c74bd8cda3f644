import java.util.function.Supplier;

/** The sentences of promises 1 to 8: construction, the text, the train and its canonical form. */
public final class TextPromisesTest extends Twins {
    private static final int FULL = TacitTrains.MAX_TEXT;
    private static final int[] OUTSIDE = {MIN, MIN + 1, -65536, -64, -1};

    public static void main(String[] args) {
        promise1();
        promise2();
        promise3();
        promise4();
        promise5();
        promise6();
        promise6Rejected();
        promise7();
        promise8();
        finish();
    }

    private static void promise1() {
        heading("Promise 1: Construction and start");
        sentence("a limit below 1 gives L = 1", () -> {
            for (int limit : v(0, -1, -2, -15, -16, -17, -255, -65535, MIN + 1, MIN)) {
                hasLimit(limit, 1);
            }
        });
        sentence("a limit above 16 gives L = 16", () -> {
            for (int limit : v(17, 18, 31, 32, 33, 257, 65537, MAX - 1, MAX)) {
                hasLimit(limit, 16);
            }
        });
        sentence("any other limit gives L = limit", () -> {
            for (int limit = 1; limit <= 16; limit++) {
                hasLimit(limit, limit);
            }
        });
        sentence("Any int is accepted.", () -> {
            for (int bit = 0; bit < 32; bit++) {
                for (int near = -1; near <= 1; near++) {
                    int limit = (1 << bit) + near;
                    due("limit of " + limit, new TacitTrains(limit).limit(), Math.max(1, Math.min(16, limit)));
                }
            }
        });
        sentence("Initially the text is empty (textLength 0)", () -> {
            TacitTrains t = new TacitTrains(5);
            due("textLength", t.textLength(), 0);
            due("putting 32 characters", putText(t, "+".repeat(FULL)), true);
        });
        sentence("no train is held (hasTrain false, canonLength 0)", () -> {
            TacitTrains t = new TacitTrains(5);
            due("hasTrain", t.hasTrain(), false);
            due("canonLength", t.canonLength(), 0);
            due("apply", t.apply(MONAD), TacitTrains.NO_TRAIN);
        });
        sentence("x, y and the result are empty (argLength 0 for both, resultLength 0)", () -> {
            TacitTrains t = new TacitTrains(5);
            due("argLength of x", t.argLength(X), 0);
            due("argLength of y", t.argLength(Y), 0);
            due("resultLength", t.resultLength(), 0);
            due("what x and y hold", heldArgs(t), "x: [], y: []");
        });
        sentence("the status is NOT_RUN", () -> {
            for (int limit : v(MIN, 0, 1, 16, 17, MAX)) {
                due("status at limit " + limit, new TacitTrains(limit).status(), TacitTrains.NOT_RUN);
            }
        });
    }

    /** The limit is seen in the answer of limit, in the room of x and of y, and in what a result may hold. */
    private static void hasLimit(int limit, int due) {
        TacitTrains t = parsed(limit, ",");
        due("limit of " + limit, t.limit(), due);
        for (int which : v(X, Y)) {
            push(t, which, run(1, due));
            due("pushArg into a full vector at limit " + limit, t.pushArg(which, 9), false);
        }
        applied(t, "a result of L elements at limit " + limit, MONAD, OK, run(1, due));
        applied(t, "a result of 2 L elements at limit " + limit, DYAD, LIMIT);
    }

    private static void promise2() {
        heading("Promise 2: limit");
        sentence("`limit()` answers L.", () -> {
            for (int limit = 1; limit <= 16; limit++) {
                due("limit", new TacitTrains(limit).limit(), limit);
            }
        });
        sentence("L never changes after construction", () -> {
            TacitTrains t = new TacitTrains(3);
            TacitTrains other = new TacitTrains(9);
            due("limit beside an object of limit 9", t.limit(), 3);
            due("limit beside an object of limit 3", other.limit(), 9);
            putText(t, ",");
            t.parse();
            push(t, X, 1, 2, 3);
            push(t, Y, 1, 2, 3);
            t.pushArg(X, 16);
            t.apply(MONAD);
            t.apply(DYAD);
            t.apply(16);
            due("limit after apply", t.limit(), 3);
            t.clearArgs();
            t.clearText();
            due("limit after clearing", t.limit(), 3);
            push(t, Y, 1, 2, 3);
            due("pushArg beyond the limit", t.pushArg(Y, 4), false);
        });
        sentence("calling `limit()` changes nothing", () -> changesNothing("limit", t -> t.limit()));
    }

    private static void promise3() {
        heading("Promise 3: putChar");
        sentence("if c is not one of the 26 alphabet characters, it answers false", () -> {
            int known = 0;
            for (int c = 0; c <= Character.MAX_VALUE; c++) {
                boolean inAlphabet = ALPHABET.indexOf(c) >= 0;
                TacitTrains t = new TacitTrains(3);
                due("putChar of " + c, t.putChar((char) c), inAlphabet);
                due("textLength after putChar of " + c, t.textLength(), inAlphabet ? 1 : 0);
                known += t.textLength();
            }
            due("the characters known", known, 26);
        });
        sentence("if the text already holds MAX_TEXT characters, it answers false", () -> {
            for (char c : ALPHABET.toCharArray()) {
                TacitTrains t = withText(3, "+".repeat(FULL - 1));
                due("putChar number 32, " + c, t.putChar(c), true);
                due("putChar number 33, " + c, t.putChar(c), false);
                due("textLength after it", t.textLength(), FULL);
            }
        });
        sentence("A false answer changes nothing.", () -> {
            for (char c : new char[] {' ', 'x', 'A', '\n', 0, 127, 256 + '+', 65535}) {
                changesNothing("putChar of " + (int) c, t -> due("putChar", t.putChar(c), false));
            }
            for (char c : ALPHABET.toCharArray()) {
                TacitTrains t = parsed(3, "+".repeat(FULL));
                TacitTrains twin = parsed(3, "+".repeat(FULL));
                due("putChar into a full text, " + c, t.putChar(c), false);
                due("unknown putChar into a full text", t.putChar('x'), false);
                due("the full object after them", everything(t), everything(twin));
            }
        });
        sentence("Otherwise it appends c to the end of the text", () -> {
            for (int count = 1; count < FULL; count++) {
                TacitTrains t = withText(3, "(".repeat(count / 2) + "-".repeat(count - count / 2));
                due("textLength", t.textLength(), count);
            }
            TacitTrains t = parsed(5, "-");
            putText(t, "+*");
            due("parse after more characters", t.parse(), true);
            due("canon after more characters", canon(t), "(-+*)");
        });
        sentence("discards any held train (hasTrain becomes false, canonLength becomes 0) and answers true", () -> {
            for (char c : ALPHABET.toCharArray()) {
                TacitTrains t = parsed(5, "+-");
                due("putChar of " + c, t.putChar(c), true);
                due("the text and the train after it", shownText(t), "text 3, train false ");
                due("canonLength after it", t.canonLength(), 0);
                due("canonChar(0) after it", (int) t.canonChar(0), 0);
                due("apply after it", t.apply(MONAD), TacitTrains.NO_TRAIN);
            }
        });
        sentence("any alphabet character is appended while there is room", () -> {
            for (char c : ALPHABET.toCharArray()) {
                withText(3, ("" + c).repeat(FULL));
                withText(3, ")" + c);
                withText(3, "///" + c);
                withText(3, "+@" + c);
            }
        });
        sentence("Arguments, result and status are kept.", () -> {
            keeps("putChar", t -> t.putChar('+'), t -> shownArgs(t) + ", " + shownResult(t));
            keeps("putChar", t -> t.putChar(')'), Twins::heldArgs);
        });
    }

    private static void promise4() {
        heading("Promise 4: clearText");
        sentence("`clearText()` empties the text and discards any held train (hasTrain false, canonLength 0).", () -> {
            TacitTrains t = busy();
            t.clearText();
            due("the busy object after clearText", shown(t), "limit 5, text 0, train false , " + BUSY_REST);
            due("canonLength", t.canonLength(), 0);
            due("apply", t.apply(MONAD), TacitTrains.NO_TRAIN);
            due("parse", t.parse(), false);
            putText(t, "#");
            due("parse of a new text", t.parse(), true);
            due("canon of a new text", canon(t), "#");
        });
        sentence("It works in every state, including when the text is already empty.", () -> {
            for (Supplier<TacitTrains> state : STATES) {
                TacitTrains t = state.get();
                for (int i = 0; i < 3; i++) {
                    t.clearText();
                    due("the text and the train after clearText", shownText(t), "text 0, train false ");
                }
                due("putting a full text after it", putText(t, "<".repeat(FULL)), true);
            }
        });
        sentence("Arguments, result, status and L are kept.", () -> {
            keeps("clearText", t -> t.clearText(), t -> t.limit() + ", " + shownArgs(t) + ", " + shownResult(t));
            keeps("clearText", t -> t.clearText(), Twins::heldArgs);
        });
    }

    private static void promise5() {
        heading("Promise 5: textLength");
        sentence("`textLength()` answers the number of characters in the text, always in 0..MAX_TEXT.", () -> {
            TacitTrains t = new TacitTrains(4);
            due("textLength at the start", t.textLength(), 0);
            for (int i = 1; i <= 2 * FULL; i++) {
                t.putChar('(');
                due("textLength after putChar number " + i, t.textLength(), Math.min(i, FULL));
            }
            t.clearText();
            due("textLength after clearText", t.textLength(), 0);
            t.clearText();
            due("textLength after clearText again", t.textLength(), 0);
        });
        sentence("It changes nothing.", () -> changesNothing("textLength", t -> t.textLength()));
    }

    private static void promise6() {
        heading("Promise 6: parse");
        sentence("if a train is already held, it answers true and changes nothing", () -> {
            for (String text : new String[] {"+", "[,+/", "+".repeat(FULL), "((#))"}) {
                TacitTrains t = parsed(5, text);
                TacitTrains twin = parsed(5, text);
                due("parse again of " + text, t.parse(), true);
                due("the object after it", everything(t), everything(twin));
            }
        });
        sentence("if the text is ACCEPTED, the train it denotes (by the grammar and the Trains rules) becomes held", () -> {
            TacitTrains t = ready(4, "-+/", v(9), v(1, 2));
            applied(t, "the first train", MONAD, OK, -2, -1);
            t.clearText();
            putText(t, "-/");
            due("parse of a second text", t.parse(), true);
            applied(t, "the second train", MONAD, OK, -1);
            putText(t, "@>");
            due("parse of the second text made longer", t.parse(), true);
            applied(t, "the third train", MONAD, OK, -1);
            applied(t, "the third train with x", DYAD, OK, 0);
        });
        sentence("hasTrain becomes true, the canonical form is set, and true is answered", () -> {
            String[] accepted = {
                "+", "7", "+-", "+-*", "(+)", "((((#))))", "+/", "+/\\", "+\"\\", "3/", "+@-", "+@-@*", "+@(-)", "+@(-/)",
                "(+-)/", "(+-)@(*<)", "+(-)", "(+)(-)", "+@-/", "12", "((+/)\\)", "+/-\\", "#@(,@|)",
                "(".repeat(15) + "+" + ")".repeat(15), "+".repeat(32), "+@".repeat(15) + "+-",
            };
            for (String text : accepted) {
                TacitTrains t = withText(4, text);
                due("hasTrain before parse of " + text, t.hasTrain(), false);
                due("parse of " + text, t.parse(), true);
                due("hasTrain of " + text, t.hasTrain(), true);
                due("canon of " + text + " is there", t.canonLength() > 0, true);
                due("apply of " + text + " is refused", t.apply(DYAD) >= TacitTrains.NO_TRAIN, false);
            }
        });
        sentence("Else it answers false and changes nothing", () -> {
            for (String text : new String[] {"", "(+", "+/\\\"", "+@", ")", "((((", "+(-/)\\\"("}) {
                TacitTrains t = withText(5, text);
                TacitTrains twin = withText(5, text);
                due("parse of " + text, t.parse(), false);
                due("parse again of " + text, t.parse(), false);
                due("the object after it", everything(t), everything(twin));
            }
            // What a rejected text left behind is seen neither in itself made longer nor in a new text.
            TacitTrains t = withText(5, "(+");
            due("parse of the open group", t.parse(), false);
            due("closing the group", t.putChar(')'), true);
            due("parse of the closed group", t.parse(), true);
            due("canon of the closed group", canon(t), "+");
            t = withText(5, "+/\\((-@");
            due("parse of a broken text", t.parse(), false);
            t.clearText();
            putText(t, "-\"\"");
            due("parse after a broken text", t.parse(), true);
            due("canon after a broken text", canon(t), "-\"\"");
        });
        sentence("The text, arguments, result and status are never changed by `parse`.", () -> {
            keeps("parse", t -> t.parse(), t -> t.textLength() + ", " + shownArgs(t) + ", " + shownResult(t));
            keeps("parse", t -> t.parse(), Twins::heldText);
            keeps("parse", t -> t.parse(), Twins::heldArgs);
        });
    }

    private static void promise6Rejected() {
        sentence("the empty text is REJECTED", () -> {
            TacitTrains t = new TacitTrains(4);
            due("parse of a new object", t.parse(), false);
            due("hasTrain after it", t.hasTrain(), false);
            for (Supplier<TacitTrains> state : STATES) {
                t = state.get();
                t.clearText();
                due("parse of a cleared text", t.parse(), false);
                due("the text and the train after it", shownText(t), "text 0, train false ");
            }
        });
        sentence("unbalanced parentheses", () -> rejects(
            "(", ")", "(+", "+)", "((+)", "(+))", ")(", ")+(", "+(", "(+)(", "(+))(-)", "(+)(-", "+@(", "+@(-", "+@-)",
            "(".repeat(32), ")".repeat(32), "(".repeat(16) + "+" + ")".repeat(15), "(".repeat(15) + "+" + ")".repeat(16)));
        sentence("a leading adverb or `@`", () -> rejects(
            "/", "\\", "\"", "@", "/+", "\\+", "\"+", "@+", "@@", "/@+", "(/+)", "(\\)", "(\"-)", "(@+)", "+(/)", "+(@-)",
            "+@(/)", "+@(@-)", "-(+)(\\*)"));
        sentence("a trailing `@`", () -> rejects(
            "+@", "7@", "+-@", "+/@", "+@-@", "(+)@", "(+@)", "(+@)-", "+(-@)", "+@(-@)", "+@".repeat(16)));
        sentence("empty parentheses and the like", () -> rejects(
            "()", "()+", "+()", "(())", "(()+)", "+()-", "+@()", "()@+", "()/", "()()", "()".repeat(16),
            "+@@-", "+@/", "+@\\-", "+@\"", "+@)", "(+@)"));
        sentence("any text with more than MAX_ADVERBS adverb characters", () -> {
            rejects("+///", "+\\\\\\", "+\"\"\"", "+/\\\"", "+/-/*/", "(+/)(-\\)*\"", "((+/)\\)\"", "+@(-/)/\\", "1/2\\3\"",
                "+" + "/".repeat(31));
            for (String text : new String[] {"+//", "+/-\\", "(+/)(-\\)", "((+\")/)", "+@(-/)\\", "+@(-/\\)"}) {
                parsed(4, text);
            }
        });
    }

    private static void rejects(String... texts) {
        for (String text : texts) {
            TacitTrains t = withText(4, text);
            due("parse of " + text, t.parse(), false);
            due("the text and the train after it", shownText(t), "text " + text.length() + ", train false ");
            due("apply after it", t.apply(MONAD), TacitTrains.NO_TRAIN);
        }
    }

    private static void promise7() {
        heading("Promise 7: hasTrain");
        sentence("`hasTrain()` answers true when a train is held and false otherwise.", () -> {
            TacitTrains t = new TacitTrains(4);
            due("hasTrain at the start", t.hasTrain(), false);
            t.putChar('+');
            due("hasTrain before parse", t.hasTrain(), false);
            t.parse();
            due("hasTrain after parse", t.hasTrain(), true);
            t.apply(DYAD);
            due("hasTrain after apply", t.hasTrain(), true);
            t.putChar(' ');
            due("hasTrain after a refused putChar", t.hasTrain(), true);
            t.putChar('/');
            due("hasTrain after putChar", t.hasTrain(), false);
            t.parse();
            due("hasTrain after parse again", t.hasTrain(), true);
            t.apply(MONAD);
            due("hasTrain after a failed apply", t.hasTrain(), true);
            t.clearText();
            due("hasTrain after clearText", t.hasTrain(), false);
            t.parse();
            due("hasTrain after a rejected parse", t.hasTrain(), false);
        });
        sentence("It changes nothing.", () -> changesNothing("hasTrain", t -> t.hasTrain()));
    }

    private static void promise8() {
        heading("Promise 8: canonLength and canonChar");
        sentence("`canonLength()` answers the length of the canonical form of the held train, and 0 when none is held.",
            () -> {
                TacitTrains t = withText(4, "+");
                due("canonLength before parse", t.canonLength(), 0);
                for (int words = 1; words <= FULL; words++) {
                    t = parsed(4, "+".repeat(words));
                    due("canonLength of " + words + " words", t.canonLength(), words + words / 2 * 2);
                }
                due("putChar into the full text", t.putChar('+'), false);
                due("canonLength after it", t.canonLength(), TacitTrains.MAX_CANON);
                t.clearText();
                due("canonLength after clearText", t.canonLength(), 0);
                t.parse();
                due("canonLength after a rejected parse", t.canonLength(), 0);
                t.putChar('-');
                t.parse();
                due("canonLength of a shorter form after a longer one", t.canonLength(), 1);
            });
        sentence("`canonChar(int i)` answers character i (counted from 0) of the canonical form", () -> {
            reads("+", "+");
            reads("]+-*", "(](+-*))");
            reads("+".repeat(31) + "-", "(+" + "(++".repeat(14) + "(++-" + ")".repeat(16));
        });
        sentence("`(char) 0` when i < 0", () -> {
            for (String text : new String[] {"+", "+-", "+".repeat(FULL)}) {
                TacitTrains t = parsed(4, text);
                for (int i : OUTSIDE) {
                    due("canonChar(" + i + ") of " + text, (int) t.canonChar(i), 0);
                }
            }
        });
        sentence("or i >= canonLength()", () -> {
            for (String text : new String[] {"+", "+-", "+".repeat(FULL)}) {
                // A longer form before it must not be seen behind the end of the shorter one.
                TacitTrains t = parsed(4, "-".repeat(FULL));
                t.clearText();
                putText(t, text);
                due("parse of " + text, t.parse(), true);
                for (int i = t.canonLength(); i <= 70; i++) {
                    due("canonChar(" + i + ") of " + text, (int) t.canonChar(i), 0);
                }
                for (int i : v(255, 256, 65536, MAX - 1, MAX)) {
                    due("canonChar(" + i + ") of " + text, (int) t.canonChar(i), 0);
                }
            }
        });
        sentence("including every i when no train is held", () -> {
            TacitTrains t = parsed(4, "+".repeat(FULL));
            t.clearText();
            noCanonChar(new TacitTrains(4), "of a new object");
            noCanonChar(t, "after clearText");
            noCanonChar(withText(4, "+-"), "before parse");
            t = parsed(4, "+-");
            t.putChar('*');
            noCanonChar(t, "after putChar");
        });
        sentence("Neither changes anything.", () -> {
            changesNothing("canonLength", t -> t.canonLength());
            for (int i : v(MIN, -1, 0, 1, 63, 64, MAX)) {
                changesNothing("canonChar(" + i + ")", t -> t.canonChar(i));
            }
        });
    }

    private static void reads(String text, String form) {
        TacitTrains t = parsed(4, text);
        for (int i = 0; i < form.length(); i++) {
            due("canonChar(" + i + ") of " + text, t.canonChar(i), form.charAt(i));
        }
        due("canonChar behind the end of " + text, (int) t.canonChar(form.length()), 0);
    }

    private static void noCanonChar(TacitTrains t, String when) {
        for (int i = -2; i <= 66; i++) {
            due("canonChar(" + i + ") " + when, (int) t.canonChar(i), 0);
        }
        due("canonChar(MIN) " + when, (int) t.canonChar(MIN), 0);
        due("canonChar(MAX) " + when, (int) t.canonChar(MAX), 0);
    }
}
