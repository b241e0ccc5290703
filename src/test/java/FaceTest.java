import java.io.IOException;
import java.lang.reflect.Constructor;
import java.lang.reflect.Field;
import java.lang.reflect.Method;
import java.lang.reflect.Modifier;
import java.nio.file.Files;
import java.nio.file.Path;
import java.util.Map;
import java.util.Set;
import java.util.TreeMap;
import java.util.TreeSet;
import java.util.regex.Matcher;
import java.util.regex.Pattern;

/** The class's public face, and those rules of LANGUAGE.md that can be seen without reading Java. */
public final class FaceTest {
    private static final Set<String> METHODS = Set.of(
            "int tokens(int, int, int, int)", "int untoken()", "void clear()", "boolean reads()", "int run()",
            "int rank()", "int length(int)", "int size()", "int at(int)", "int digest()", "int keep(int)",
            "int show(int)", "int forget(int)", "int put(int, int)");
    private static final Set<String> CONSTANTS = Set.of(
            "BAD_ARG = -1", "FULL = -2", "NONE = -3", "SYNTAX = -10", "VALUE = -11", "VALENCE = -12", "RANK = -13",
            "LENGTH = -14", "DOMAIN = -15", "LIMIT = -16");

    public static void main(String[] args) throws IOException, IllegalAccessException {
        int type = ArrayWords.class.getModifiers();
        Check.due("the class is public and final", Modifier.isPublic(type) && Modifier.isFinal(type), true);
        Check.due("nested classes", ArrayWords.class.getDeclaredClasses().length, 0);
        constructors();
        methods();
        fields();
        Check.due("a name for each constant", constantNames(), CONSTANTS.size());
        source(Files.readString(Path.of("src/main/java/ArrayWords.java")));
        Check.end();
    }

    private static void constructors() {
        Constructor<?>[] all = ArrayWords.class.getDeclaredConstructors();
        Check.due("constructors", all.length, 1);
        Check.due("the constructor is public", Modifier.isPublic(all[0].getModifiers()), true);
        Check.due("the constructor's arguments", all[0].getParameterCount(), 0);
    }

    private static void methods() {
        Set<String> open = new TreeSet<>();
        Set<String> openNames = new TreeSet<>();
        for (Method m : ArrayWords.class.getDeclaredMethods()) {
            if (!Modifier.isPrivate(m.getModifiers())) {
                String types = java.util.Arrays.toString(m.getParameterTypes());
                Check.due(m.getName() + " is asked of an object", Modifier.isStatic(m.getModifiers()), false);
                open.add(m.getReturnType() + " " + m.getName() + "(" + types.substring(1, types.length() - 1) + ")");
                openNames.add(m.getName());
            }
        }
        Check.due("public methods", open, new TreeSet<>(METHODS));
        for (Method m : ArrayWords.class.getDeclaredMethods()) {
            if (Modifier.isPrivate(m.getModifiers())) {
                Check.due(m.getName() + " bears a public name", openNames.contains(m.getName()), false);
            }
            Check.due(m.getName() + " has at most seven parameters", m.getParameterCount() <= 7, true);
            Check.due(m.getName() + " answers an array", m.getReturnType().isArray(), false);
        }
    }

    private static void fields() throws IllegalAccessException {
        Set<String> open = new TreeSet<>();
        int own = 0;
        for (Field f : ArrayWords.class.getDeclaredFields()) {
            int how = f.getModifiers();
            if (!Modifier.isPrivate(how)) {
                open.add(f.getName() + " = " + f.getInt(null));
            }
            Class<?> type = f.getType();
            if (Modifier.isStatic(how)) {
                Check.due(f.getName() + " is a constant", Modifier.isFinal(how) && type == int.class, true);
            } else {
                own++;
                Class<?> part = type.isArray() ? type.getComponentType() : type;
                Check.due(f.getName() + " is of whole numbers", part == int.class || part == boolean.class, true);
            }
        }
        Check.due("public constants", open, new TreeSet<>(CONSTANTS));
        Check.due("at most forty fields", own <= 40, true);
    }

    /** Compiles only if each of them is a constant of the language, and a different one. */
    private static int constantNames() {
        int names = 0;
        for (int code = -20; code <= 0; code++) {
            switch (code) {
                case ArrayWords.BAD_ARG, ArrayWords.FULL, ArrayWords.NONE, ArrayWords.SYNTAX, ArrayWords.VALUE,
                        ArrayWords.VALENCE, ArrayWords.RANK, ArrayWords.LENGTH, ArrayWords.DOMAIN, ArrayWords.LIMIT ->
                    names++;
                default -> {
                }
            }
        }
        return names;
    }

    private static void source(String whole) {
        String code = whole.replaceAll("(?s)/\\*.*?\\*/", " ").replaceAll("//[^\n]*", " ");
        Matcher word = Pattern.compile("\\b(import|package|String|Math|Integer|System|Arrays|Object|float|double|null|throw"
                + "|throws|try|catch|synchronized|assert|instanceof|var|record|enum|interface|this|super)\\b|->|::|\"")
                .matcher(code);
        Check.due("words outside the language", word.find() ? word.group() : "none", "none");
        Matcher made = Pattern.compile("\\bnew\\b").matcher(code);
        while (made.find()) {
            int start = code.lastIndexOf('\n', made.start()) + 1;
            String line = code.substring(start, code.indexOf('\n', made.start()));
            Check.due("an array is made in a field's initialiser: " + line.trim(),
                    line.matches("    private final (int|boolean)\\[\\] \\w+ = new (int|boolean)\\[[\\w* ]+\\];"), true);
        }
        callsInCalls(code);
        depths(bodies(code));
    }

    /** The lines of each method, and of the constructor, by its name. */
    private static Map<String, String> bodies(String code) {
        Map<String, String> bodies = new TreeMap<>();
        Matcher method = Pattern.compile("(?ms)^    (?:public|private)[\\w ]* (\\w+)\\([^)]*\\) \\{$(.*?)^    \\}$")
                .matcher(code);
        while (method.find()) {
            Check.due("methods named " + method.group(1), bodies.put(method.group(1), method.group(2)) == null, true);
            long lines = method.group(2).lines().count();
            Check.due(method.group(1) + " is short: " + lines + " lines", lines <= 60, true);
        }
        int all = ArrayWords.class.getDeclaredMethods().length + ArrayWords.class.getDeclaredConstructors().length;
        Check.due("methods found", bodies.size(), all);
        return bodies;
    }

    /** No method comes back to itself, and calls go at most six deep. */
    private static void depths(Map<String, String> bodies) {
        Map<String, Integer> depths = new TreeMap<>();
        // In each turn those get a depth whose calls all have one, so what is recursive never does.
        for (int turn = 1; turn <= bodies.size(); turn++) {
            for (Map.Entry<String, String> method : bodies.entrySet()) {
                Set<String> called = new TreeSet<>();
                Pattern.compile("(\\w+)\\(").matcher(method.getValue()).results().forEach(c -> called.add(c.group(1)));
                called.retainAll(bodies.keySet());
                if (depths.keySet().containsAll(called)) {
                    int below = called.stream().mapToInt(depths::get).max().orElse(0);
                    depths.putIfAbsent(method.getKey(), below + 1);
                }
            }
        }
        for (String method : bodies.keySet()) {
            int depth = depths.getOrDefault(method, Check.MAX);
            Check.due("calls of " + method + " go " + depth + " deep, six at most", depth <= 6, true);
        }
    }

    /** No call stands inside the arguments of another call. */
    private static void callsInCalls(String code) {
        Pattern call = Pattern.compile("(\\w+)\\(");
        Set<String> notCalls = Set.of("if", "for", "while", "switch", "return");
        Matcher outer = call.matcher(code);
        while (outer.find()) {
            if (notCalls.contains(outer.group(1))) {
                continue;
            }
            int end = outer.end();
            for (int open = 1; open > 0; end++) {
                open += code.charAt(end) == '(' ? 1 : code.charAt(end) == ')' ? -1 : 0;
            }
            String arguments = code.substring(outer.end(), end - 1);
            Check.due("a call in the arguments of " + outer.group(1), call.matcher(arguments).find(), false);
        }
    }
}
