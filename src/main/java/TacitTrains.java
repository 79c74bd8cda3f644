public final class TacitTrains {
    public static final int MONAD = 1;
    public static final int DYAD = 2;
    public static final int ARG_X = 0;
    public static final int ARG_Y = 1;
    public static final int OK = 0;
    public static final int ERR_LENGTH = 1;
    public static final int ERR_DOMAIN = 2;
    public static final int ERR_LIMIT = 3;
    public static final int NO_TRAIN = 4;
    public static final int BAD_MODE = 5;
    public static final int NOT_RUN = 6;
    public static final int MAX_TEXT = 32;
    public static final int MAX_CANON = 64;
    public static final int MAX_ADVERBS = 2;
    public static final int MAX_LIMIT = 16;

    // A node's kind is the character that made it; forks and hooks have none,
    // so their kinds are numbers that no alphabet character has.
    private static final int FORK = 1;
    private static final int HOOK = 2;

    // Each character makes at most one node, and a text has fewer forks and
    // hooks than it has verb characters and digits.
    private static final int MAX_NODES = 2 * MAX_TEXT;

    // Each node and each character of the canonical form is postponed at most
    // once, so this is enough even if nothing were taken back in between.
    private static final int MAX_POSTPONED = MAX_NODES + MAX_CANON;

    // The frames in use stand for different nodes on one path down the tree.
    private static final int MAX_FRAMES = MAX_NODES;

    // All vectors live in numbered slots; ARG_X and ARG_Y are slots 0 and 1.
    private static final int RESULT = 2;
    private static final int RETURNED = 3;
    private static final int FIRST_FRAME_SLOT = 4;
    private static final int SLOTS_PER_FRAME = 3;
    private static final int MAX_SLOTS = FIRST_FRAME_SLOT + MAX_FRAMES * SLOTS_PER_FRAME;
    private static final int MAX_CELLS = MAX_SLOTS * MAX_LIMIT;

    // Two adverbs run a verb at most 16 * 16 times, and one run through fewer
    // than 64 nodes of at most 4 steps each stays far below this.
    private static final int MAX_STEPS = 1000000;

    private static final int NO_PAIRING = -1;

    private final int vectorLimit;

    private final char[] text = new char[MAX_TEXT];
    private int textCount = 0;

    private boolean trainHeld = false;
    private int rootNode = 0;
    private final int[] nodeKind = new int[MAX_NODES];
    private final int[] nodeFirst = new int[MAX_NODES];
    private final int[] nodeSecond = new int[MAX_NODES];
    private final int[] nodeThird = new int[MAX_NODES];
    private int nodeCount = 0;

    // The words read so far, those of the outer groups below those of the
    // group that is open now.
    private final int[] words = new int[MAX_TEXT];
    private int wordCount = 0;
    private int groupFirst = 0;
    private boolean atopWaiting = false;
    private final int[] outerFirst = new int[MAX_TEXT];
    private final boolean[] outerAtop = new boolean[MAX_TEXT];
    private int groupCount = 0;
    private int adverbCount = 0;

    private final char[] canon = new char[MAX_CANON];
    private int canonCount = 0;
    private final int[] postponed = new int[MAX_POSTPONED];
    private int postponedCount = 0;

    private final int[] cells = new int[MAX_CELLS];
    private final int[] lengths = new int[MAX_SLOTS];

    private final int[] frameNode = new int[MAX_FRAMES];
    private final boolean[] frameDyadic = new boolean[MAX_FRAMES];
    private final int[] frameX = new int[MAX_FRAMES];
    private final int[] frameY = new int[MAX_FRAMES];
    private final int[] framePhase = new int[MAX_FRAMES];
    private int frameCount = 0;
    private int failure = OK;
    private int lastStatus = NOT_RUN;

    public TacitTrains(int limit) {
        vectorLimit = limit < 1 ? 1 : limit > MAX_LIMIT ? MAX_LIMIT : limit;
    }

    public int limit() {
        return vectorLimit;
    }

    public boolean putChar(char c) {
        if (!isAlphabet(c) || textCount >= MAX_TEXT) {
            return false;
        }
        text[textCount] = c;
        textCount++;
        discardTrain();
        return true;
    }

    public void clearText() {
        textCount = 0;
        discardTrain();
    }

    public int textLength() {
        return textCount;
    }

    public boolean parse() {
        if (trainHeld) {
            return true;
        }
        startReading();
        for (int i = 0; i < textCount; i++) {
            if (!readChar(text[i])) {
                return false;
            }
        }
        if (groupCount > 0 || !wordIsWhole() || adverbCount > MAX_ADVERBS) {
            return false;
        }
        rootNode = makeTrain(0);
        writeCanon();
        trainHeld = true;
        return true;
    }

    public boolean hasTrain() {
        return trainHeld;
    }

    public int canonLength() {
        return canonCount;
    }

    public char canonChar(int i) {
        if (i < 0 || i >= canonCount) {
            return (char) 0;
        }
        return canon[i];
    }

    public boolean pushArg(int which, int value) {
        if (which != ARG_X && which != ARG_Y) {
            return false;
        }
        if (lengths[which] >= vectorLimit) {
            return false;
        }
        append(which, value);
        return true;
    }

    public void clearArgs() {
        lengths[ARG_X] = 0;
        lengths[ARG_Y] = 0;
    }

    public int argLength(int which) {
        if (which != ARG_X && which != ARG_Y) {
            return -1;
        }
        return lengths[which];
    }

    public int apply(int mode) {
        if (mode != MONAD && mode != DYAD) {
            return BAD_MODE;
        }
        if (!trainHeld) {
            return NO_TRAIN;
        }
        failure = OK;
        frameCount = 0;
        enter(rootNode, mode == DYAD, ARG_X, ARG_Y);
        for (int step = 0; step < MAX_STEPS && frameCount > 0 && failure == OK; step++) {
            stepFrame(frameCount - 1);
        }
        if (failure == OK) {
            copyVector(RETURNED, RESULT);
        } else {
            lengths[RESULT] = 0;
        }
        lastStatus = failure;
        return lastStatus;
    }

    public int status() {
        return lastStatus;
    }

    public int resultLength() {
        return lengths[RESULT];
    }

    public int resultAt(int i) {
        if (i < 0 || i >= lengths[RESULT]) {
            return 0;
        }
        return cells[RESULT * MAX_LIMIT + i];
    }

    // ---- the alphabet

    private static boolean isAlphabet(int c) {
        return isVerbOrDigit(c) || isAdverb(c) || c == '@' || c == '(' || c == ')';
    }

    private static boolean isVerbOrDigit(int c) {
        switch (c) {
            case '+': case '-': case '*': case '<': case '>':
            case '[': case ']': case '#': case ',': case '|':
                return true;
            default:
                return isDigit(c);
        }
    }

    private static boolean isDigit(int c) {
        return c >= '0' && c <= '9';
    }

    private static boolean isAdverb(int c) {
        return c == '/' || c == '\\' || c == '"';
    }

    // ---- reading the text into a tree of nodes

    private void discardTrain() {
        trainHeld = false;
        canonCount = 0;
    }

    private void startReading() {
        nodeCount = 0;
        wordCount = 0;
        groupFirst = 0;
        atopWaiting = false;
        groupCount = 0;
        adverbCount = 0;
    }

    private boolean readChar(int c) {
        if (c == '(') {
            openGroup();
            return true;
        }
        if (isVerbOrDigit(c)) {
            int leaf = makeNode(c, 0, 0, 0);
            addPrimary(leaf);
            return true;
        }
        // Every other character needs a whole word before it in its group.
        if (!wordIsWhole()) {
            return false;
        }
        if (c == ')') {
            return closeGroup();
        }
        if (c == '@') {
            atopWaiting = true;
            return true;
        }
        adverbCount++;
        words[wordCount - 1] = makeNode(c, words[wordCount - 1], 0, 0);
        return true;
    }

    private boolean wordIsWhole() {
        return wordCount > groupFirst && !atopWaiting;
    }

    private void openGroup() {
        outerFirst[groupCount] = groupFirst;
        outerAtop[groupCount] = atopWaiting;
        groupCount++;
        groupFirst = wordCount;
        atopWaiting = false;
    }

    private boolean closeGroup() {
        if (groupCount == 0) {
            return false;
        }
        int train = makeTrain(groupFirst);
        wordCount = groupFirst;
        groupCount--;
        groupFirst = outerFirst[groupCount];
        atopWaiting = outerAtop[groupCount];
        addPrimary(train);
        return true;
    }

    private void addPrimary(int primary) {
        if (atopWaiting) {
            words[wordCount - 1] = makeNode('@', words[wordCount - 1], primary, 0);
            atopWaiting = false;
        } else {
            words[wordCount] = primary;
            wordCount++;
        }
    }

    // Forks take two words each from the right end on; a hook takes the one
    // that is left over when the number of words is even.
    private int makeTrain(int first) {
        int train = words[wordCount - 1];
        int i = wordCount - 2;
        for (; i > first; i -= 2) {
            train = makeNode(FORK, words[i - 1], words[i], train);
        }
        if (i == first) {
            train = makeNode(HOOK, words[first], train, 0);
        }
        return train;
    }

    private int makeNode(int kind, int first, int second, int third) {
        int node = nodeCount;
        nodeKind[node] = kind;
        nodeFirst[node] = first;
        nodeSecond[node] = second;
        nodeThird[node] = third;
        nodeCount++;
        return node;
    }

    // ---- the canonical form

    // A postponed item is a node, or a character as its negative number.
    private void writeCanon() {
        canonCount = 0;
        postponedCount = 0;
        postpone(rootNode);
        for (int i = 0; i < MAX_POSTPONED && postponedCount > 0; i++) {
            postponedCount--;
            int item = postponed[postponedCount];
            if (item < 0) {
                writeCanonChar(-item);
            } else {
                unfoldNode(item);
            }
        }
    }

    // The item that is postponed last is written first.
    private void unfoldNode(int node) {
        int kind = nodeKind[node];
        if (kind == FORK || kind == HOOK) {
            postpone(-')');
            if (kind == FORK) {
                postpone(nodeThird[node]);
            }
            postpone(nodeSecond[node]);
            postpone(nodeFirst[node]);
            postpone(-'(');
        } else if (kind == '@') {
            postponeAtopRight(nodeSecond[node]);
            postpone(-'@');
            postpone(nodeFirst[node]);
        } else if (isAdverb(kind)) {
            postpone(-kind);
            postpone(nodeFirst[node]);
        } else {
            writeCanonChar(kind);
        }
    }

    private void postponeAtopRight(int node) {
        int kind = nodeKind[node];
        boolean modified = kind == '@' || isAdverb(kind);
        if (modified) {
            postpone(-')');
        }
        postpone(node);
        if (modified) {
            postpone(-'(');
        }
    }

    private void postpone(int item) {
        postponed[postponedCount] = item;
        postponedCount++;
    }

    private void writeCanonChar(int c) {
        canon[canonCount] = (char) c;
        canonCount++;
    }

    // ---- vectors

    private void append(int slot, int value) {
        cells[slot * MAX_LIMIT + lengths[slot]] = value;
        lengths[slot]++;
    }

    private void appendElement(int from, int i, int to) {
        cells[to * MAX_LIMIT + lengths[to]] = cells[from * MAX_LIMIT + i];
        lengths[to]++;
    }

    private void copyVector(int from, int to) {
        lengths[to] = 0;
        appendVector(from, to);
    }

    private void appendVector(int from, int to) {
        int count = lengths[from];
        for (int i = 0; i < count; i++) {
            cells[to * MAX_LIMIT + lengths[to]] = cells[from * MAX_LIMIT + i];
            lengths[to]++;
        }
    }

    private int pairCount(int x, int y) {
        int n = lengths[x];
        int m = lengths[y];
        if (n == m || n == 1) {
            return m;
        }
        return m == 1 ? n : NO_PAIRING;
    }

    // A vector of one element stands for that element in every pair.
    private int pairElement(int slot, int i) {
        return cells[slot * MAX_LIMIT + (lengths[slot] == 1 ? 0 : i)];
    }

    // ---- applying the train: a frame stands for one verb being applied, and
    // ---- each step of it either enters a verb below it or leaves the frame
    // ---- with its value in the slot RETURNED

    private void enter(int node, boolean dyadic, int x, int y) {
        frameNode[frameCount] = node;
        frameDyadic[frameCount] = dyadic;
        frameX[frameCount] = x;
        frameY[frameCount] = y;
        framePhase[frameCount] = 0;
        frameCount++;
    }

    private void leave() {
        frameCount--;
    }

    private static int slotA(int frame) {
        return FIRST_FRAME_SLOT + frame * SLOTS_PER_FRAME;
    }

    private static int slotB(int frame) {
        return FIRST_FRAME_SLOT + frame * SLOTS_PER_FRAME + 1;
    }

    private static int slotZ(int frame) {
        return FIRST_FRAME_SLOT + frame * SLOTS_PER_FRAME + 2;
    }

    private void stepFrame(int frame) {
        int phase = framePhase[frame];
        framePhase[frame] = phase + 1;
        switch (nodeKind[frameNode[frame]]) {
            case FORK:
                stepFork(frame, phase);
                break;
            case HOOK:
                stepHook(frame, phase);
                break;
            case '@':
                stepAtop(frame, phase);
                break;
            case '/':
                stepReduce(frame, phase);
                break;
            case '\\':
                stepScan(frame, phase);
                break;
            case '"':
                stepEach(frame, phase);
                break;
            default:
                stepLeaf(frame);
                break;
        }
    }

    private void stepFork(int frame, int phase) {
        int node = frameNode[frame];
        int a = slotA(frame);
        int b = slotB(frame);
        if (phase == 0) {
            enter(nodeThird[node], frameDyadic[frame], frameX[frame], frameY[frame]);
        } else if (phase == 1) {
            copyVector(RETURNED, a);
            enter(nodeFirst[node], frameDyadic[frame], frameX[frame], frameY[frame]);
        } else if (phase == 2) {
            copyVector(RETURNED, b);
            enter(nodeSecond[node], true, b, a);
        } else {
            leave();
        }
    }

    private void stepHook(int frame, int phase) {
        int node = frameNode[frame];
        int a = slotA(frame);
        int left = frameDyadic[frame] ? frameX[frame] : frameY[frame];
        if (phase == 0) {
            enter(nodeSecond[node], false, frameY[frame], frameY[frame]);
        } else if (phase == 1) {
            copyVector(RETURNED, a);
            enter(nodeFirst[node], true, left, a);
        } else {
            leave();
        }
    }

    private void stepAtop(int frame, int phase) {
        int node = frameNode[frame];
        int a = slotA(frame);
        if (phase == 0) {
            enter(nodeSecond[node], frameDyadic[frame], frameX[frame], frameY[frame]);
        } else if (phase == 1) {
            copyVector(RETURNED, a);
            enter(nodeFirst[node], false, a, a);
        } else {
            leave();
        }
    }

    private void stepReduce(int frame, int phase) {
        int a = slotA(frame);
        if (phase > 0) {
            copyVector(RETURNED, a);
        } else if (frameDyadic[frame] || lengths[frameY[frame]] > 0) {
            startFold(frame);
        } else {
            failure = ERR_LENGTH;
            return;
        }
        foldOn(frame, phase, a);
    }

    private void stepScan(int frame, int phase) {
        int a = slotA(frame);
        int z = slotZ(frame);
        if (phase == 0) {
            lengths[z] = 0;
            startFold(frame);
            if (!frameDyadic[frame]) {
                appendVector(a, z);
            }
        } else if (collectReturned(z)) {
            copyVector(RETURNED, a);
        } else {
            return;
        }
        foldOn(frame, phase, z);
    }

    // Slot A holds the value r of a reduce or a scan.
    private void startFold(int frame) {
        int y = frameY[frame];
        int a = slotA(frame);
        lengths[a] = 0;
        if (frameDyadic[frame]) {
            appendVector(frameX[frame], a);
        } else if (lengths[y] > 0) {
            appendElement(y, 0, a);
        }
    }

    private void foldOn(int frame, int phase, int valueSlot) {
        int y = frameY[frame];
        int a = slotA(frame);
        int b = slotB(frame);
        // A monadic fold starts from element 0, so its first step takes element 1.
        int next = frameDyadic[frame] ? phase : phase + 1;
        if (next < lengths[y]) {
            lengths[b] = 0;
            appendElement(y, next, b);
            enter(nodeFirst[frameNode[frame]], true, a, b);
        } else {
            copyVector(valueSlot, RETURNED);
            leave();
        }
    }

    private boolean collectReturned(int z) {
        if (lengths[RETURNED] != 1) {
            failure = ERR_LENGTH;
            return false;
        }
        appendVector(RETURNED, z);
        return true;
    }

    private void stepEach(int frame, int phase) {
        int x = frameX[frame];
        int y = frameY[frame];
        int z = slotZ(frame);
        int count = frameDyadic[frame] ? pairCount(x, y) : lengths[y];
        if (count == NO_PAIRING) {
            failure = ERR_LENGTH;
            return;
        }
        if (phase == 0) {
            lengths[z] = 0;
        } else if (!collectReturned(z)) {
            return;
        }
        if (phase < count) {
            enterPair(frame, phase);
        } else {
            copyVector(z, RETURNED);
            leave();
        }
    }

    private void enterPair(int frame, int i) {
        int a = slotA(frame);
        int b = slotB(frame);
        lengths[a] = 0;
        lengths[b] = 0;
        if (frameDyadic[frame]) {
            int left = pairElement(frameX[frame], i);
            int right = pairElement(frameY[frame], i);
            append(a, left);
            append(b, right);
        } else {
            appendElement(frameY[frame], i, b);
        }
        enter(nodeFirst[frameNode[frame]], frameDyadic[frame], a, b);
    }

    private void stepLeaf(int frame) {
        int kind = nodeKind[frameNode[frame]];
        lengths[RETURNED] = 0;
        if (isDigit(kind)) {
            append(RETURNED, kind - '0');
        } else if (frameDyadic[frame]) {
            runDyad(kind, frameX[frame], frameY[frame]);
        } else {
            runMonad(kind, frameY[frame]);
        }
        leave();
    }

    // ---- primitives: each appends its value to the empty slot RETURNED

    private void runMonad(int kind, int y) {
        switch (kind) {
            case '[': case ']': case ',':
                appendVector(y, RETURNED);
                break;
            case '#':
                append(RETURNED, lengths[y]);
                break;
            case '|':
                reverse(y);
                break;
            default:
                mapElements(kind, y);
                break;
        }
    }

    private void reverse(int y) {
        for (int i = lengths[y] - 1; i >= 0; i--) {
            appendElement(y, i, RETURNED);
        }
    }

    private void mapElements(int kind, int y) {
        int m = lengths[y];
        for (int i = 0; i < m; i++) {
            int mapped = mapOne(kind, cells[y * MAX_LIMIT + i]);
            append(RETURNED, mapped);
        }
    }

    private static int mapOne(int kind, int value) {
        switch (kind) {
            case '+':
                return value + value;
            case '-':
                return 0 - value;
            case '*':
                return value < 0 ? -1 : value > 0 ? 1 : 0;
            case '<':
                return value - 1;
            default:
                return value + 1;
        }
    }

    private void runDyad(int kind, int x, int y) {
        switch (kind) {
            case '[':
                appendVector(x, RETURNED);
                break;
            case ']':
                appendVector(y, RETURNED);
                break;
            case '#':
                copyByCounts(x, y);
                break;
            case ',':
                join(x, y);
                break;
            case '|':
                rotate(x, y);
                break;
            default:
                mapPairs(kind, x, y);
                break;
        }
    }

    private void copyByCounts(int x, int y) {
        int n = lengths[x];
        int m = lengths[y];
        if (n != m && n != 1) {
            failure = ERR_LENGTH;
            return;
        }
        for (int i = 0; i < m; i++) {
            int count = pairElement(x, i);
            if (count < 0) {
                failure = ERR_DOMAIN;
                return;
            }
            if (count > vectorLimit - lengths[RETURNED]) {
                failure = ERR_LIMIT;
                return;
            }
            for (int k = 0; k < count; k++) {
                appendElement(y, i, RETURNED);
            }
        }
    }

    private void join(int x, int y) {
        if (lengths[x] + lengths[y] > vectorLimit) {
            failure = ERR_LIMIT;
            return;
        }
        appendVector(x, RETURNED);
        appendVector(y, RETURNED);
    }

    private void rotate(int x, int y) {
        int m = lengths[y];
        if (lengths[x] != 1) {
            failure = ERR_LENGTH;
            return;
        }
        if (m == 0) {
            return;
        }
        // The remainder of a negative number is negative or 0 in Java.
        int k = (cells[x * MAX_LIMIT] % m + m) % m;
        for (int i = 0; i < m; i++) {
            appendElement(y, (i + k) % m, RETURNED);
        }
    }

    private void mapPairs(int kind, int x, int y) {
        int count = pairCount(x, y);
        if (count == NO_PAIRING) {
            failure = ERR_LENGTH;
            return;
        }
        for (int i = 0; i < count; i++) {
            int a = pairElement(x, i);
            int b = pairElement(y, i);
            int joined = mapPair(kind, a, b);
            append(RETURNED, joined);
        }
    }

    private static int mapPair(int kind, int a, int b) {
        switch (kind) {
            case '+':
                return a + b;
            case '-':
                return a - b;
            case '*':
                return a * b;
            case '<':
                return a < b ? a : b;
            default:
                return a > b ? a : b;
        }
    }
}
