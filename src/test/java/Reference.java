import java.util.ArrayList;
import java.util.List;

/** The document once more, written the plain recursive way, for the program to be compared with. */
final class Reference {
    /** What a failing step raises. */
    private static final class Failure extends RuntimeException {
        private static final long serialVersionUID = 1L;
        final int code;

        Failure(int code) {
            super(null, null, false, false);
            this.code = code;
        }
    }

    /** A text that does not match the grammar. */
    private static final class Rejected extends RuntimeException {
        private static final long serialVersionUID = 1L;

        Rejected() {
            super(null, null, false, false);
        }
    }

    private interface Verb {
        String canon();

        /** x is null in monadic use. */
        List<Integer> apply(List<Integer> x, List<Integer> y);
    }

    private final int limit;
    private String text = "";
    private Verb train = null;
    private final List<List<Integer>> args = List.of(new ArrayList<>(), new ArrayList<>());
    private List<Integer> result = List.of();
    private int status = TacitTrains.NOT_RUN;
    private int at;

    Reference(int limit) {
        this.limit = Math.max(1, Math.min(TacitTrains.MAX_LIMIT, limit));
    }

    boolean putChar(char c) {
        if ("+-*<>[]#,|0123456789/\\\"@()".indexOf(c) < 0 || text.length() == TacitTrains.MAX_TEXT) {
            return false;
        }
        text += c;
        train = null;
        return true;
    }

    void clearText() {
        text = "";
        train = null;
    }

    boolean parse() {
        if (train != null) {
            return true;
        }
        if (text.chars().filter(c -> "/\\\"".indexOf(c) >= 0).count() > TacitTrains.MAX_ADVERBS) {
            return false;
        }
        try {
            at = 0;
            Verb read = readTrain();
            if (at < text.length()) {
                return false;
            }
            train = read;
            return true;
        } catch (Rejected e) {
            return false;
        }
    }

    boolean pushArg(int which, int value) {
        if (which < 0 || which > 1 || args.get(which).size() == limit) {
            return false;
        }
        return args.get(which).add(value);
    }

    void clearArgs() {
        args.get(0).clear();
        args.get(1).clear();
    }

    int argLength(int which) {
        return which < 0 || which > 1 ? -1 : args.get(which).size();
    }

    int apply(int mode) {
        if (mode != TacitTrains.MONAD && mode != TacitTrains.DYAD) {
            return TacitTrains.BAD_MODE;
        }
        if (train == null) {
            return TacitTrains.NO_TRAIN;
        }
        try {
            List<Integer> x = mode == TacitTrains.DYAD ? args.get(0) : null;
            result = List.copyOf(train.apply(x, args.get(1)));
            status = TacitTrains.OK;
        } catch (Failure e) {
            result = List.of();
            status = e.code;
        }
        return status;
    }

    String shown() {
        return "limit " + limit + ", text " + text.length() + ", train " + (train != null)
            + " " + canon() + ", x " + args.get(0).size() + ", y " + args.get(1).size()
            + ", status " + status + ", result " + result;
    }

    String canon() {
        return train == null ? "" : train.canon();
    }

    int resultAt(int i) {
        return i < 0 || i >= result.size() ? 0 : result.get(i);
    }

    int canonChar(int i) {
        return i < 0 || i >= canon().length() ? 0 : canon().charAt(i);
    }

    // ---- grammar

    private boolean next(String chars) {
        return at < text.length() && chars.indexOf(text.charAt(at)) >= 0;
    }

    private Verb readTrain() {
        List<Verb> words = new ArrayList<>();
        do {
            words.add(readWord());
        } while (at < text.length() && !next(")"));
        return train(words);
    }

    private Verb readWord() {
        Verb word = readPrimary();
        while (next("/\\\"@")) {
            char c = text.charAt(at++);
            word = c == '@' ? new Atop(word, readPrimary())
                : c == '/' ? new Reduce(word)
                : c == '\\' ? new Scan(word)
                : new Each(word);
        }
        return word;
    }

    private Verb readPrimary() {
        if (next("(")) {
            at++;
            Verb inner = readTrain();
            if (!next(")")) {
                throw new Rejected();
            }
            at++;
            return inner;
        }
        if (!next("+-*<>[]#,|0123456789")) {
            throw new Rejected();
        }
        char c = text.charAt(at++);
        return Character.isDigit(c) ? new Digit(c - '0') : new Primitive(c);
    }

    private Verb train(List<Verb> w) {
        int k = w.size();
        if (k == 1) {
            return w.get(0);
        }
        if (k % 2 == 0) {
            return new Hook(w.get(0), train(w.subList(1, k)));
        }
        return new Fork(w.get(0), w.get(1), train(w.subList(2, k)));
    }

    // ---- meaning

    private record Fork(Verb f, Verb g, Verb h) implements Verb {
        public String canon() {
            return "(" + f.canon() + g.canon() + h.canon() + ")";
        }

        public List<Integer> apply(List<Integer> x, List<Integer> y) {
            List<Integer> a = h.apply(x, y);
            List<Integer> b = f.apply(x, y);
            return g.apply(b, a);
        }
    }

    private record Hook(Verb f, Verb g) implements Verb {
        public String canon() {
            return "(" + f.canon() + g.canon() + ")";
        }

        public List<Integer> apply(List<Integer> x, List<Integer> y) {
            List<Integer> a = g.apply(null, y);
            return f.apply(x == null ? y : x, a);
        }
    }

    private record Atop(Verb u, Verb v) implements Verb {
        public String canon() {
            boolean bare = v instanceof Primitive || v instanceof Digit || v instanceof Fork || v instanceof Hook;
            return u.canon() + "@" + (bare ? v.canon() : "(" + v.canon() + ")");
        }

        public List<Integer> apply(List<Integer> x, List<Integer> y) {
            return u.apply(null, v.apply(x, y));
        }
    }

    private record Reduce(Verb u) implements Verb {
        public String canon() {
            return u.canon() + "/";
        }

        public List<Integer> apply(List<Integer> x, List<Integer> y) {
            if (x == null && y.isEmpty()) {
                throw new Failure(TacitTrains.ERR_LENGTH);
            }
            List<Integer> r = x == null ? y.subList(0, 1) : x;
            for (int item : y.subList(x == null ? 1 : 0, y.size())) {
                r = u.apply(r, List.of(item));
            }
            return r;
        }
    }

    private static int only(List<Integer> r) {
        if (r.size() != 1) {
            throw new Failure(TacitTrains.ERR_LENGTH);
        }
        return r.get(0);
    }

    private record Scan(Verb u) implements Verb {
        public String canon() {
            return u.canon() + "\\";
        }

        public List<Integer> apply(List<Integer> x, List<Integer> y) {
            List<Integer> z = new ArrayList<>();
            List<Integer> r = x;
            for (int item : y) {
                r = r == null ? List.of(item) : u.apply(r, List.of(item));
                z.add(only(r));
            }
            return z;
        }
    }

    private record Each(Verb u) implements Verb {
        public String canon() {
            return u.canon() + "\"";
        }

        public List<Integer> apply(List<Integer> x, List<Integer> y) {
            List<Integer> z = new ArrayList<>();
            if (x == null) {
                for (int item : y) {
                    z.add(only(u.apply(null, List.of(item))));
                }
                return z;
            }
            for (int[] pair : pairs(x, y)) {
                z.add(only(u.apply(List.of(pair[0]), List.of(pair[1]))));
            }
            return z;
        }
    }

    private record Digit(int d) implements Verb {
        public String canon() {
            return "" + d;
        }

        public List<Integer> apply(List<Integer> x, List<Integer> y) {
            return List.of(d);
        }
    }

    private static List<int[]> pairs(List<Integer> x, List<Integer> y) {
        List<int[]> all = new ArrayList<>();
        if (x.size() == y.size()) {
            for (int i = 0; i < x.size(); i++) {
                all.add(new int[] {x.get(i), y.get(i)});
            }
        } else if (x.size() == 1) {
            y.forEach(b -> all.add(new int[] {x.get(0), b}));
        } else if (y.size() == 1) {
            x.forEach(a -> all.add(new int[] {a, y.get(0)}));
        } else {
            throw new Failure(TacitTrains.ERR_LENGTH);
        }
        return all;
    }

    // ---- primitives

    private final class Primitive implements Verb {
        private final char c;

        Primitive(char c) {
            this.c = c;
        }

        public String canon() {
            return "" + c;
        }

        public List<Integer> apply(List<Integer> x, List<Integer> y) {
            return x == null ? monad(y) : dyad(x, y);
        }

        private List<Integer> monad(List<Integer> y) {
            List<Integer> z = new ArrayList<>();
            switch (c) {
                case '+' -> y.forEach(b -> z.add(b * 2));
                case '-' -> y.forEach(b -> z.add(-b));
                case '*' -> y.forEach(b -> z.add(Integer.signum(b)));
                case '<' -> y.forEach(b -> z.add(b - 1));
                case '>' -> y.forEach(b -> z.add(b + 1));
                case '#' -> z.add(y.size());
                case '|' -> y.forEach(b -> z.add(0, b));
                default -> z.addAll(y);
            }
            return z;
        }

        private List<Integer> dyad(List<Integer> x, List<Integer> y) {
            List<Integer> z = new ArrayList<>();
            switch (c) {
                case '+' -> pairs(x, y).forEach(p -> z.add(p[0] + p[1]));
                case '-' -> pairs(x, y).forEach(p -> z.add(p[0] - p[1]));
                case '*' -> pairs(x, y).forEach(p -> z.add(p[0] * p[1]));
                case '<' -> pairs(x, y).forEach(p -> z.add(Math.min(p[0], p[1])));
                case '>' -> pairs(x, y).forEach(p -> z.add(Math.max(p[0], p[1])));
                case '[' -> z.addAll(x);
                case ']' -> z.addAll(y);
                case '#' -> copy(x, y, z);
                case ',' -> {
                    z.addAll(x);
                    z.addAll(y);
                    if (z.size() > limit) {
                        throw new Failure(TacitTrains.ERR_LIMIT);
                    }
                }
                default -> {
                    if (x.size() != 1) {
                        throw new Failure(TacitTrains.ERR_LENGTH);
                    }
                    for (int i = 0; i < y.size(); i++) {
                        z.add(y.get((int) Math.floorMod((long) x.get(0) + i, (long) y.size())));
                    }
                }
            }
            return z;
        }

        private void copy(List<Integer> x, List<Integer> y, List<Integer> z) {
            if (x.size() != y.size() && x.size() != 1) {
                throw new Failure(TacitTrains.ERR_LENGTH);
            }
            for (int i = 0; i < y.size(); i++) {
                int count = x.size() == y.size() ? x.get(i) : x.get(0);
                if (count < 0) {
                    throw new Failure(TacitTrains.ERR_DOMAIN);
                }
                if ((long) z.size() + count > limit) {
                    throw new Failure(TacitTrains.ERR_LIMIT);
                }
                for (int k = 0; k < count; k++) {
                    z.add(y.get(i));
                }
            }
        }
    }
}
