import java.nio.file.Files;
import java.nio.file.Path;
import java.util.ArrayList;
import java.util.List;
import java.util.Map;
import java.util.Set;
import java.util.TreeMap;
import java.util.TreeSet;
import java.util.regex.Matcher;
import java.util.regex.Pattern;

/** The rules of LANGUAGE.md that can be seen from the program's text; run from the project's root. */
public final class LanguageTest {
    private static final Path SOURCE = Path.of("src/main/java/TacitTrains.java");
    private static final Pattern HEAD =
        Pattern.compile("(?m)^    (?:public|private)[\\w \\[\\]]*?\\b(\\w+)\\(([^)]*)\\) \\{$");
    private static final Pattern CALL = Pattern.compile("\\b(\\w+)\\s*\\(");
    private static final Set<String> NOT_CALLS = Set.of("if", "for", "while", "switch", "return");
    private static final int LONGEST_METHOD = 60;
    private static final int DEEPEST_CALL = 6;
    private static final int MOST_FIELDS = 40;

    private static final Map<String, String> bodies = new TreeMap<>();
    private static final Map<String, Set<String>> calls = new TreeMap<>();

    public static void main(String[] args) throws Exception {
        String plain = withoutCommentsAndLiterals(Files.readString(SOURCE));
        words(plain);
        arrays(plain);
        fields(plain);
        methods(plain);
        for (String name : bodies.keySet()) {
            int depth = depth(name, new ArrayList<>());
            Checks.due(name + " calls at most six deep, it is " + depth, depth <= DEEPEST_CALL, true);
        }
        Checks.finish();
    }

    private static String withoutCommentsAndLiterals(String source) {
        return source.replaceAll("'(\\\\.|[^'\\\\])'", "0").replaceAll("//[^\n]*", "");
    }

    private static void words(String plain) {
        String[] ruledOut = {
            "package", "import", "float", "double", "String", "Math", "Integer", "System", "Arrays", "Object", "null",
            "throw", "throws", "try", "catch", "finally", "synchronized", "assert", "instanceof", "enum", "interface",
            "record", "extends", "implements", "protected", "this", "super", "var", "yield"};
        for (String word : ruledOut) {
            Checks.due(word + " is used", Pattern.compile("\\b" + word + "\\b").matcher(plain).find(), false);
        }
        for (String mark : new String[] {"->", "::", "\"", "[][]", "/*", "@"}) {
            Checks.due(mark + " is used", plain.contains(mark), false);
        }
        Checks.due("classes", Pattern.compile("\\bclass\\b").matcher(plain).results().count(), 1L);
    }

    private static void arrays(String plain) {
        Pattern made = Pattern.compile("(?m)^    private final \\w+\\[\\] \\w+ = new \\w+\\[[A-Z_]+\\];$");
        Checks.due("arrays made outside a field's initialiser",
            Pattern.compile("\\bnew\\b").matcher(plain).results().count() - made.matcher(plain).results().count(), 0L);
    }

    private static void fields(String plain) {
        Pattern field = Pattern.compile("(?m)^    private (?!static)[^(]*;$");
        long count = field.matcher(plain).results().count();
        Checks.due("some fields, at most forty, are seen: " + count, count > 0 && count <= MOST_FIELDS, true);
    }

    private static void methods(String plain) {
        Matcher head = HEAD.matcher(plain);
        while (head.find()) {
            String body = plain.substring(head.end(), plain.indexOf("\n    }\n", head.end()));
            Checks.due(head.group(1) + " is there once", bodies.put(head.group(1), body) == null, true);
            long lines = body.chars().filter(c -> c == '\n').count();
            Checks.due(head.group(1) + " has at most sixty lines, it has " + lines, lines <= LONGEST_METHOD, true);
        }
        Checks.due("methods are seen", bodies.size() > 16, true);
        bodies.forEach(LanguageTest::callsOf);
    }

    private static void callsOf(String name, String body) {
        Set<String> called = new TreeSet<>();
        Matcher call = CALL.matcher(body);
        while (call.find()) {
            if (NOT_CALLS.contains(call.group(1))) {
                continue;
            }
            called.add(call.group(1));
            Checks.due(name + " calls a method of the class: " + call.group(1), bodies.containsKey(call.group(1)), true);
            String inner = body.substring(call.end(), closing(body, call.end()));
            Checks.due(name + " calls inside the arguments of " + call.group(1), CALL.matcher(inner).find(), false);
        }
        calls.put(name, called);
    }

    private static int closing(String body, int from) {
        int open = 1;
        int i = from;
        for (; open > 0; i++) {
            open += body.charAt(i) == '(' ? 1 : body.charAt(i) == ')' ? -1 : 0;
        }
        return i;
    }

    private static int depth(String name, List<String> above) {
        Checks.due(name + " calls itself through " + above, above.contains(name), false);
        if (above.contains(name)) {
            return 0;
        }
        List<String> path = new ArrayList<>(above);
        path.add(name);
        int deepest = 0;
        for (String called : calls.getOrDefault(name, Set.of())) {
            deepest = Math.max(deepest, depth(called, path));
        }
        return deepest + 1;
    }
}
