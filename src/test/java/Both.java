/** One object of the program and one of the reference; every call is made on both, and the answers are compared. */
final class Both {
    final TacitTrains program;
    private final Reference reference;
    private final StringBuilder calls = new StringBuilder();

    // A long run would be told at a length that no one reads.
    private static final int MOST_TOLD = 400;

    Both(int limit) {
        program = new TacitTrains(limit);
        reference = new Reference(limit);
        told("new TacitTrains(" + limit + ")");
    }

    private void told(String call) {
        calls.append(' ').append(call);
        if (calls.length() > 2 * MOST_TOLD) {
            calls.replace(0, calls.length() - MOST_TOLD, " ..");
        }
    }

    private <T> T compared(String call, T got, T want) {
        told(call);
        Checks.due(got.equals(want) ? call : "the last call of" + calls, got, want);
        return got;
    }

    boolean putChar(char c) {
        return compared("putChar(" + (int) c + ")", program.putChar(c), reference.putChar(c));
    }

    boolean putText(String text) {
        boolean all = true;
        for (char c : text.toCharArray()) {
            all &= putChar(c);
        }
        return all;
    }

    void clearText() {
        told("clearText()");
        program.clearText();
        reference.clearText();
    }

    boolean parse() {
        return compared("parse()", program.parse(), reference.parse());
    }

    boolean pushArg(int which, int value) {
        return compared("pushArg(" + which + ", " + value + ")",
            program.pushArg(which, value), reference.pushArg(which, value));
    }

    void clearArgs() {
        told("clearArgs()");
        program.clearArgs();
        reference.clearArgs();
    }

    int apply(int mode) {
        return compared("apply(" + mode + ")", program.apply(mode), reference.apply(mode));
    }

    /** The three answers that ask for an index. */
    void readAt(int i) {
        compared("argLength(" + i + ")", program.argLength(i), reference.argLength(i));
        compared("canonChar(" + i + ")", (int) program.canonChar(i), reference.canonChar(i));
        compared("resultAt(" + i + ")", program.resultAt(i), reference.resultAt(i));
    }

    /** Whether everything that the two show without being changed is the same. */
    void same() {
        String got = Checks.shown(program);
        String want = reference.shown();
        Checks.due(got.equals(want) ? "the object" : "the object after" + calls, got, want);
    }
}
