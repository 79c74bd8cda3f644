/** The sentences under 'Texts and grammar', 'Trains' and 'Canonical form'. */
public final class GrammarTest extends Checks {
    private static final String VERBS = "+-*<>[]#,|";
    private static final String DIGITS = "0123456789";
    private static final String ADVERBS = "/\\\"";
    private static final int FULL = TacitTrains.MAX_TEXT;

    public static void main(String[] args) {
        alphabet();
        grammar();
        adverbsAndGroups();
        trains();
        canonicalForm();
        finish();
    }

    private static void hasCanon(String text, String form) {
        TacitTrains t = parsed(4, text);
        due("canon of " + text, canon(t), form);
        due("canonLength of " + text, t.canonLength(), form.length());
    }

    private static void isAccepted(String text, boolean accepted) {
        due("parse of " + text, withText(4, text).parse(), accepted);
    }

    private static void alphabet() {
        heading("Texts and grammar");
        sentence("The alphabet has exactly 26 characters", () -> {
            TacitTrains t = new TacitTrains(1);
            int known = 0;
            for (int c = 0; c <= Character.MAX_VALUE; c++) {
                known += t.putChar((char) c) ? 1 : 0;
                t.clearText();
            }
            due("the characters that putChar takes", known, 26);
        });
        sentence("verb characters `+ - * < > [ ] # , |`", () -> {
            for (char c : VERBS.toCharArray()) {
                hasCanon("" + c, "" + c);
            }
        });
        sentence("digits `0 1 2 3 4 5 6 7 8 9`", () -> {
            for (char c : DIGITS.toCharArray()) {
                hasCanon("" + c, "" + c);
            }
            due("putChar of the character before 0, which is an adverb", new TacitTrains(1).putChar('/'), true);
            due("putChar of the character behind 9", new TacitTrains(1).putChar(':'), false);
        });
        sentence("adverbs `/ \\ \"`", () -> {
            for (char c : ADVERBS.toCharArray()) {
                isAccepted("" + c, false);
                hasCanon("+" + c, "+" + c);
            }
        });
        sentence("the conjunction `@`", () -> {
            isAccepted("@", false);
            hasCanon("+@-", "+@-");
        });
        sentence("parentheses `( )`", () -> {
            isAccepted("(", false);
            isAccepted(")", false);
            hasCanon("(+-)*", "((+-)*)");
            isAccepted("[+-]", true);
            due("putChar of {", new TacitTrains(1).putChar('{'), false);
        });
        sentence("The grammar has no spaces", () -> {
            TacitTrains t = withText(4, "+");
            due("putChar of a space", t.putChar(' '), false);
            due("putChar of a tab", t.putChar('\t'), false);
            due("textLength after them", t.textLength(), 1);
        });
    }

    private static void grammar() {
        sentence("the whole text must match `train`", () -> {
            for (String text : new String[] {"+)", "+)-", "(+))", "+/)", "+@-)", "(+)@", "+-@", "+-("}) {
                isAccepted(text, false);
            }
        });
        sentence("train   := word { word }", () -> {
            isAccepted("", false);
            for (int words = 1; words <= FULL; words++) {
                isAccepted("+".repeat(words), true);
            }
            isAccepted("+/-\\3(*)[@]", true);
        });
        sentence("word    := primary { adverb | '@' primary }     modifiers apply left to right", () -> {
            hasCanon("+@-@*@<", "+@-@*@<");
            hasCanon("+@(-@*)", "+@(-@*)");
            hasCanon("+/@-\\", "+/@-\\");
            isAccepted("+@@-", false);
            isAccepted("+@/", false);
            isAccepted("/@+", false);
            monad("-@+@<", v(5), -8);
            monad("-@+/", v(5, 6), -11);
            monad("-@(+/)", v(5, 6), -11);
            monad("-@+/", v(5, 6, 7), 4);
            monad("-@(+/)", v(5, 6, 7), -18);
        });
        sentence("primary := verb character | digit | '(' train ')'", () -> {
            for (char c : ALPHABET.toCharArray()) {
                boolean primary = (VERBS + DIGITS).indexOf(c) >= 0;
                isAccepted("" + c, primary);
                isAccepted("(" + c + ")", primary);
                isAccepted("+@" + c, primary);
            }
            isAccepted("()", false);
            isAccepted("+@(-*)", true);
        });
        sentence("So `+/\\` means `((+)/)\\`", () -> {
            hasCanon("+/\\", "+/\\");
            hasCanon("((+)/)\\", "+/\\");
            monad("((+)/)\\", v(1, 2, 3), 1, 3, 6);
            monad("+/\\", v(1, 2, 3), 1, 3, 6);
            monad("+\\/", v(1, 2, 3), 6);
        });
        sentence("and `+@-/` means `(+@-)/`", () -> {
            hasCanon("+@-/", "+@-/");
            hasCanon("(+@-)/", "+@-/");
            hasCanon("+@(-/)", "+@(-/)");
            monad("+@-/", v(9, 2, 3), 22);
            monad("(+@-)/", v(9, 2, 3), 22);
            monad("+@(-/)", v(9, 2, 3), 8);
        });
    }

    private static void adverbsAndGroups() {
        sentence("holds at most MAX_ADVERBS (2) adverb characters in all; otherwise it is REJECTED", () -> {
            for (char a : ADVERBS.toCharArray()) {
                isAccepted("+" + a, true);
                for (char b : ADVERBS.toCharArray()) {
                    isAccepted("+" + a + b, true);
                    isAccepted("(+" + a + ")-" + b, true);
                    for (char c : ADVERBS.toCharArray()) {
                        isAccepted("+" + a + b + c, false);
                        isAccepted("+" + a + "-" + b + "*" + c, false);
                        isAccepted("((+" + a + ")" + b + ")" + c, false);
                        isAccepted("+@(-" + a + ")@(*" + b + ")" + c, false);
                    }
                }
            }
            isAccepted("+".repeat(30) + "//", true);
            isAccepted("+".repeat(29) + "///", false);
        });
        sentence("The empty text is REJECTED.", () -> isAccepted("", false));
        sentence("A primary `(` train `)` whose train has exactly one word is that word itself.", () -> {
            hasCanon("(+)", "+");
            hasCanon("(".repeat(15) + "7" + ")".repeat(15), "7");
            hasCanon("((+)/)", "+/");
            hasCanon("(+@-)@*", "+@-@*");
            hasCanon("(+)(-)(*)", "(+-*)");
            hasCanon("((+)(-))", "(+-)");
            hasCanon("((+-))", "(+-)");
            hasCanon("(+-)*", "((+-)*)");
            monad("(-)/", v(9, 2, 3), 4);
        });
    }

    private static void trains() {
        heading("Trains");
        sentence("k = 1: w1.", () -> {
            hasCanon("-", "-");
            hasCanon("-/", "-/");
            monad("-", v(5, 6), -5, -6);
            dyad(v(7, 8), "-", v(5, 6), 2, 2);
        });
        sentence("k = 2: hook(w1, w2).", () -> {
            hasCanon("+-", "(+-)");
            monad("-+", v(5, 6), -5, -6);
            dyad(v(100), "-+", v(5, 6), 90, 88);
        });
        sentence("k odd, k >= 3: fork(w1, w2, T(w3..wk)).", () -> {
            hasCanon("+-*", "(+-*)");
            hasCanon("+-*<>", "(+-(*<>))");
            hasCanon("+-*<>[]", "(+-(*<(>[])))");
            hasCanon("(+-*<>)#", "((+-(*<>))#)");
            hasCanon("+".repeat(31), "(++".repeat(15) + "+" + ")".repeat(15));
            monad(">-<", v(5, 6), 2, 2);
            monad(">-<*#", v(5, 6), -2, -3);
            monad("+".repeat(31), v(1), 32);
        });
        sentence("k even, k >= 4: hook(w1, T(w2..wk)).", () -> {
            hasCanon("+-*<", "(+(-*<))");
            hasCanon("+-*<>[", "(+(-*(<>[)))");
            hasCanon("(+-*<)#]", "((+(-*<))#])");
            hasCanon("+".repeat(32), "(+" + "(++".repeat(15) + "+" + ")".repeat(16));
            monad(",-->", v(5), 5, -11);
            dyad(v(9), ",>-<", v(5), 9, 2);
            monad("+".repeat(32), v(1), 33);
        });
    }

    private static void canonicalForm() {
        heading("Canonical form");
        sentence("The canonical form of a held train is a text of at most 64 characters", () -> {
            hasCanon("+".repeat(32), "(+" + "(++".repeat(15) + "+" + ")".repeat(16));
            hasCanon("-".repeat(31) + "9", "(-" + "(--".repeat(15) + "9" + ")".repeat(16));
            due("canonLength of 32 words", parsed(1, "+".repeat(32)).canonLength(), 64);
            due("canonLength of 31 words", parsed(1, "+".repeat(31)).canonLength(), 61);
            // Other full texts: each group brings its own parentheses and cannot go beyond.
            for (String part : new String[] {"(++)", "(+++)", "+@(++)", "+@(+@+)", "(+@+)", "++(+)", "++@+", "(+(+))"}) {
                String text = part.repeat(FULL / part.length());
                text += "+".repeat(FULL - text.length());
                int length = parsed(1, text).canonLength();
                due("canonLength of " + text + " is in 1..64, it is " + length, length >= 1 && length <= 64, true);
            }
        });
        sentence("A verb character or digit is itself.", () -> {
            for (char c : (VERBS + DIGITS).toCharArray()) {
                hasCanon("" + c, "" + c);
            }
        });
        sentence("u followed by an adverb is canon(u) then the adverb.", () -> {
            for (char c : ADVERBS.toCharArray()) {
                hasCanon("+" + c, "+" + c);
                hasCanon("+" + c + "\\", "+" + c + "\\");
                hasCanon("(+" + c + ")/", "+" + c + "/");
                hasCanon("(+-)" + c, "(+-)" + c);
                hasCanon("(+-*)" + c, "(+-*)" + c);
                hasCanon("(+@-)" + c, "+@-" + c);
            }
        });
        sentence("u@v is canon(u), then `@`, then canon(v) if v is a verb character, digit, fork or hook", () -> {
            hasCanon("+@-", "+@-");
            hasCanon("+@(-)", "+@-");
            hasCanon("+@7", "+@7");
            hasCanon("+@((7))", "+@7");
            hasCanon("+@(-*)", "+@(-*)");
            hasCanon("+@((-*))", "+@(-*)");
            hasCanon("+@(-*<)", "+@(-*<)");
            hasCanon("+@-@*", "+@-@*");
            hasCanon("(+@-)@*", "+@-@*");
            hasCanon("(+/)@-", "+/@-");
            hasCanon("(+-)@3", "(+-)@3");
        });
        sentence("else `(` canon(v) `)`", () -> {
            hasCanon("+@(-/)", "+@(-/)");
            hasCanon("+@(-\\)", "+@(-\\)");
            hasCanon("+@(-\")", "+@(-\")");
            hasCanon("+@(-@*)", "+@(-@*)");
            hasCanon("+@((-@*))", "+@(-@*)");
            hasCanon("+@(-@(*@<))", "+@(-@(*@<))");
            hasCanon("(+/)@(-\")", "+/@(-\")");
            hasCanon("+@((-*)/)", "+@((-*)/)");
        });
        sentence("fork(f,g,h) is `(` canon(f) canon(g) canon(h) `)`.", () -> {
            hasCanon("+-*", "(+-*)");
            hasCanon("(+-*)", "(+-*)");
            hasCanon("+-/*\\", "(+-/*\\)");
            hasCanon("(+-)(*<)(>[)", "((+-)(*<)(>[))");
            hasCanon("1+@(2)/|", "(1+@2/|)");
        });
        sentence("hook(f,g) is `(` canon(f) canon(g) `)`.", () -> {
            hasCanon("+-", "(+-)");
            hasCanon("((+-))", "(+-)");
            hasCanon("(+-)(*<)", "((+-)(*<))");
            hasCanon("+(-(*(<>)))", "(+(-(*(<>))))");
        });
        sentence("`[,+/\\` gives `([,+/\\)`", () -> hasCanon("[,+/\\", "([,+/\\)"));
        sentence("`]+-*` gives `(](+-*))`", () -> hasCanon("]+-*", "(](+-*))"));
        sentence("`-(+/)` gives `(-+/)`", () -> hasCanon("-(+/)", "(-+/)"));
        sentence("`+@(-/)` gives `+@(-/)`", () -> hasCanon("+@(-/)", "+@(-/)"));
        sentence("`+@(-)` gives `+@-`", () -> hasCanon("+@(-)", "+@-"));
        sentence("`((#))` gives `#`", () -> hasCanon("((#))", "#"));
    }
}
