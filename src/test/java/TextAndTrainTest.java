/** Promises 1 to 8: construction, the text, the train and its canonical form. */
public final class TextAndTrainTest {
    private static final String ALPHABET = "+-*<>[]#,|0123456789/\\\"@()";

    public static void main(String[] args) {
        promise1();
        promise2();
        promise3Alphabet();
        promise3Full();
        promise3Discards();
        promise4();
        promise5();
        promise6Accepted();
        promise6Rejected();
        promise6Changes();
        promise7();
        promise8Forms();
        promise8Edges();
        Checks.finish();
    }

    /** An object in which every part is other than at the start. */
    private static TacitTrains busy() {
        TacitTrains t = Checks.parsed(5, "[,+/");
        Checks.push(t, TacitTrains.ARG_X, 1, 2);
        Checks.push(t, TacitTrains.ARG_Y, 3, 4, 5);
        Checks.due("apply of the busy object", t.apply(TacitTrains.MONAD), TacitTrains.OK);
        return t;
    }

    private static final String BUSY_REST = ", x 2, y 3, status 0, result [3, 4, 5, 12]";

    private static void promise1() {
        int[] limits = {Integer.MIN_VALUE, -5, -1, 0, 1, 2, 7, 15, 16, 17, 100, Integer.MAX_VALUE};
        int[] due = {1, 1, 1, 1, 1, 2, 7, 15, 16, 16, 16, 16};
        for (int i = 0; i < limits.length; i++) {
            TacitTrains t = new TacitTrains(limits[i]);
            Checks.due("new object of limit " + limits[i], Checks.shown(t),
                "limit " + due[i] + ", text 0, train false , x 0, y 0, status 6, result []");
            Checks.due("canonLength at the start", t.canonLength(), 0);
            Checks.due("resultAt(0) at the start", t.resultAt(0), 0);
            fillArgument(t, TacitTrains.ARG_X, due[i]);
            fillArgument(t, TacitTrains.ARG_Y, due[i]);
        }
    }

    private static void fillArgument(TacitTrains t, int which, int room) {
        for (int i = 0; i < room; i++) {
            Checks.push(t, which, i);
        }
        Checks.due("pushArg into a full vector", t.pushArg(which, 9), false);
    }

    private static void promise2() {
        TacitTrains t = new TacitTrains(5);
        Checks.due("limit", t.limit(), 5);
        t = busy();
        String before = Checks.shown(t);
        Checks.due("limit of the busy object", t.limit(), 5);
        Checks.due("the busy object after limit", Checks.shown(t), before);
        t.clearText();
        t.clearArgs();
        t.apply(TacitTrains.DYAD);
        Checks.due("limit after clearing", t.limit(), 5);
    }

    private static void promise3Alphabet() {
        for (int c = 0; c <= Character.MAX_VALUE; c++) {
            TacitTrains t = new TacitTrains(3);
            boolean known = ALPHABET.indexOf(c) >= 0;
            Checks.due("putChar of " + c, t.putChar((char) c), known);
            Checks.due("textLength after putChar of " + c, t.textLength(), known ? 1 : 0);
        }
    }

    private static void promise3Full() {
        TacitTrains t = new TacitTrains(3);
        for (int i = 1; i <= TacitTrains.MAX_TEXT; i++) {
            Checks.due("putChar number " + i, t.putChar('+'), true);
            Checks.due("textLength after it", t.textLength(), i);
        }
        Checks.due("parse of the full text", t.parse(), true);
        String before = Checks.shown(t);
        Checks.due("putChar into a full text", t.putChar('-'), false);
        Checks.due("unknown putChar into a full text", t.putChar('x'), false);
        Checks.due("the full object after refusals", Checks.shown(t), before);
    }

    private static void promise3Discards() {
        TacitTrains t = busy();
        String before = Checks.shown(t);
        Checks.due("putChar of a space", t.putChar(' '), false);
        Checks.due("the busy object after a refused putChar", Checks.shown(t), before);
        Checks.due("putChar of )", t.putChar(')'), true);
        Checks.due("the busy object after putChar", Checks.shown(t), "limit 5, text 5, train false " + BUSY_REST);
        Checks.due("canonChar(0) after putChar", (int) t.canonChar(0), 0);
        Checks.due("apply after putChar", t.apply(TacitTrains.MONAD), TacitTrains.NO_TRAIN);

        // The appended characters stand in order at the end of the text.
        t = Checks.parsed(5, "-");
        Checks.putText(t, "+*");
        Checks.due("parse after more characters", t.parse(), true);
        Checks.due("canon after more characters", Checks.canon(t), "(-+*)");
    }

    private static void promise4() {
        TacitTrains t = busy();
        t.clearText();
        Checks.due("the busy object after clearText", Checks.shown(t), "limit 5, text 0, train false " + BUSY_REST);
        Checks.due("parse after clearText", t.parse(), false);
        t.clearText();
        Checks.due("the busy object after clearText twice", Checks.shown(t),
            "limit 5, text 0, train false " + BUSY_REST);
        Checks.putText(t, "#");
        Checks.due("parse of a text after clearText", t.parse(), true);
        Checks.due("canon of a text after clearText", Checks.canon(t), "#");

        t = Checks.withText(2, "+".repeat(32));
        t.clearText();
        Checks.due("putChar after clearing a full text", t.putChar('+'), true);
        Checks.due("textLength after clearing a full text", t.textLength(), 1);

        t = new TacitTrains(2);
        t.clearText();
        Checks.due("a new object after clearText", Checks.shown(t),
            "limit 2, text 0, train false , x 0, y 0, status 6, result []");
    }

    private static void promise5() {
        TacitTrains t = new TacitTrains(4);
        Checks.due("textLength of a new object", t.textLength(), 0);
        Checks.putText(t, "(@");
        Checks.due("textLength of two characters", t.textLength(), 2);
        t = busy();
        String before = Checks.shown(t);
        Checks.due("textLength of the busy object", t.textLength(), 4);
        Checks.due("the busy object after textLength", Checks.shown(t), before);
    }

    private static void promise6Accepted() {
        String[] accepted = {
            "+", "7", "+-", "+-*", "(+)", "((((#))))", "+/", "+/\\", "+\"\\", "3/", "+@-", "+@-@*", "+@(-)", "+@(-/)",
            "(+-)/", "(+-)@(*<)", "+(-)", "(+)(-)", "+@-/", "12", "((+/)\\)", "+/-\\", "#@(,@|)",
            "(".repeat(15) + "+" + ")".repeat(15), "+".repeat(32),
        };
        for (String text : accepted) {
            TacitTrains t = Checks.withText(4, text);
            Checks.due("parse of " + text, t.parse(), true);
            Checks.due("hasTrain of " + text, t.hasTrain(), true);
            Checks.due("canon of " + text + " is there", t.canonLength() > 0, true);
        }
    }

    private static void promise6Rejected() {
        String[] rejected = {
            "", "/", "\\", "\"", "@", "(", ")", "()", "/+", "@+", "+@", "+@/", "+@@-", "+@)", "(+", "+)", "((+)", "(+))",
            ")(", ")+(", "+()", "()+", "(/)", "(@+)", "(+@)", "+(@-)", "+(/)", "+@()", "+@(/)", "+///", "+\\\\\\",
            "+\"\"\"", "+/\\\"", "+/-/*/", "(+/)(-\\)*\"", "+@(-/)/\\", "(+@)-", "+(-@)", "+@(", "(",
            "(".repeat(32), ")".repeat(32), "(".repeat(16) + "+" + ")".repeat(15), "+@".repeat(16),
        };
        for (String text : rejected) {
            TacitTrains t = Checks.withText(4, text);
            Checks.push(t, TacitTrains.ARG_Y, 8);
            String before = Checks.shown(t);
            Checks.due("parse of " + text, t.parse(), false);
            Checks.due("the object after parse of " + text, Checks.shown(t), before);
            Checks.due("apply after parse of " + text, t.apply(TacitTrains.MONAD), TacitTrains.NO_TRAIN);
        }
    }

    private static void promise6Changes() {
        TacitTrains t = busy();
        String before = Checks.shown(t);
        Checks.due("parse with a train held", t.parse(), true);
        Checks.due("the busy object after parse", Checks.shown(t), before);
        t.clearText();
        Checks.putText(t, "(+");
        Checks.due("parse of an open group", t.parse(), false);
        Checks.due("the object after it", Checks.shown(t), "limit 5, text 2, train false " + BUSY_REST);
        Checks.due("closing the group", t.putChar(')'), true);
        Checks.due("parse of the closed group", t.parse(), true);
        Checks.due("the object after that", Checks.shown(t), "limit 5, text 3, train true +" + BUSY_REST);

        // A rejected text leaves nothing behind that a later parse would see.
        t = Checks.withText(5, "+/\\((-@");
        Checks.due("parse of a broken text", t.parse(), false);
        t.clearText();
        Checks.putText(t, "-\"\"");
        Checks.due("parse after a broken text", t.parse(), true);
        Checks.due("canon after a broken text", Checks.canon(t), "-\"\"");
    }

    private static void promise7() {
        TacitTrains t = Checks.withText(4, "+");
        Checks.due("hasTrain before parse", t.hasTrain(), false);
        t.parse();
        Checks.due("hasTrain after parse", t.hasTrain(), true);
        Checks.due("hasTrain asked again", t.hasTrain(), true);
        t.putChar('/');
        Checks.due("hasTrain after putChar", t.hasTrain(), false);
        t.parse();
        Checks.due("hasTrain after parse again", t.hasTrain(), true);
        t.clearText();
        Checks.due("hasTrain after clearText", t.hasTrain(), false);
    }

    private static void promise8Forms() {
        String[][] forms = {
            {"[,+/\\", "([,+/\\)"}, {"]+-*", "(](+-*))"}, {"-(+/)", "(-+/)"}, {"+@(-/)", "+@(-/)"},
            {"+@(-)", "+@-"}, {"((#))", "#"}, {"5", "5"}, {"+-", "(+-)"}, {"+-*", "(+-*)"}, {"+-*<>", "(+-(*<>))"},
            {"+-*<>[", "(+(-*(<>[)))"}, {"+@-/", "+@-/"}, {"(+@-)/", "+@-/"}, {"(+/)\\", "+/\\"}, {"+@-@*", "+@-@*"},
            {"+@(-@*)", "+@(-@*)"}, {"(+@-)@*", "+@-@*"}, {"+@(-*)", "+@(-*)"}, {"+@((-*))", "+@(-*)"},
            {"+@(-*<)", "+@(-*<)"}, {"(+-)@3", "(+-)@3"}, {"(+/)@(-\")", "+/@(-\")"}, {"(+-)(*<)", "((+-)(*<))"},
            {"(+-*)", "(+-*)"}, {"+(-(*(<>)))", "(+(-(*(<>))))"}, {"+-/*\\", "(+-/*\\)"}, {"1+@(2)/|", "(1+@2/|)"},
        };
        for (String[] form : forms) {
            TacitTrains t = Checks.parsed(4, form[0]);
            Checks.due("canon of " + form[0], Checks.canon(t), form[1]);
            Checks.due("canonLength of " + form[0], t.canonLength(), form[1].length());
        }
    }

    private static void promise8Edges() {
        TacitTrains t = Checks.withText(4, "+-");
        Checks.due("canonLength with no train", t.canonLength(), 0);
        Checks.due("canonChar(0) with no train", (int) t.canonChar(0), 0);
        t.parse();
        String before = Checks.shown(t);
        int[] outside = {Integer.MIN_VALUE, -1, 4, 5, 63, 64, 65, Integer.MAX_VALUE};
        for (int i : outside) {
            Checks.due("canonChar(" + i + ")", (int) t.canonChar(i), 0);
        }
        Checks.due("the object after reading its canon", Checks.shown(t), before);

        // 32 words make the longest form.
        t = Checks.parsed(4, "+".repeat(32));
        Checks.due("canonLength of 32 words", t.canonLength(), TacitTrains.MAX_CANON);
        Checks.due("canonChar(0) of 32 words", t.canonChar(0), '(');
        Checks.due("canonChar(63) of 32 words", t.canonChar(63), ')');
        Checks.due("canonChar(64) of 32 words", (int) t.canonChar(64), 0);
        t.clearText();
        for (int i = -1; i <= 64; i++) {
            Checks.due("canonChar(" + i + ") after clearText", (int) t.canonChar(i), 0);
        }

        // A shorter form after a longer one shows nothing of the longer one.
        Checks.putText(t, "-");
        t.parse();
        Checks.due("canonLength of the shorter form", t.canonLength(), 1);
        Checks.due("canonChar(1) of the shorter form", (int) t.canonChar(1), 0);
    }
}
