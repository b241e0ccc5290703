import java.io.IOException;
import java.lang.reflect.Method;
import java.lang.reflect.Modifier;
import java.nio.file.Files;
import java.nio.file.Path;
import java.util.ArrayList;
import java.util.List;
import java.util.Set;
import java.util.TreeSet;
import java.util.regex.MatchResult;
import java.util.regex.Matcher;
import java.util.regex.Pattern;
import java.util.stream.Stream;

/** What README.md shows: its examples give the answers behind them, and its tables are those of the class. */
public final class ReadmeTest {
    private static final Pattern EXAMPLE = Pattern.compile("(?s)```java\n(.*?)```");
    private static final Pattern CALL =
            Pattern.compile("words\\.(\\w+)\\(([-\\d, ]*)\\);(?: +// (\\S+?)(?::? (.*))?)?");
    private static final Pattern TEXT_ROW = Pattern.compile("\\| `([^`]+)` \\| (\\w+) \\| `(\\[[^`]*)` \\|");
    private static final Pattern CALL_ROW = Pattern.compile("\\| `(\\w+)\\(([a-z, ]*)\\)` \\|.*");
    private static final Pattern CODE_ROW = Pattern.compile("\\| `([A-Z_]+)` \\| (-\\d+) \\|.*");
    private static final Pattern TOKEN_ROW = Pattern.compile("\\| (\\d+) to (\\d+) \\| `([^`]+)` \\|");
    private static final Pattern TEST_NAME = Pattern.compile("`(\\w+Test)`(?=[^:]*:)");

    private static final Set<String> shown = new TreeSet<>();

    public static void main(String[] args) throws IOException, ReflectiveOperationException {
        String readme = Files.readString(Path.of("README.md"));
        for (MatchResult example : found(EXAMPLE, readme)) {
            example(example.group(1));
        }
        Check.due("the calls in examples", shown, publicMethods());
        List<String> lines = readme.lines().toList();
        texts(lines);
        calls(lines);
        codes(lines);
        tokens(lines);
        tests(lines);
        Check.end();
    }

    private static List<MatchResult> found(Pattern pattern, String text) {
        return pattern.matcher(text).results().toList();
    }

    private static List<Matcher> rows(Pattern pattern, List<String> lines) {
        return lines.stream().map(pattern::matcher).filter(Matcher::matches).toList();
    }

    private static Set<String> publicMethods() {
        Set<String> names = new TreeSet<>();
        for (Method method : ArrayWords.class.getDeclaredMethods()) {
            if (Modifier.isPublic(method.getModifiers())) {
                names.add(method.getName());
            }
        }
        return names;
    }

    private static void example(String code) throws ReflectiveOperationException {
        ArrayWords words = null;
        for (String line : code.split("\n")) {
            Matcher call = CALL.matcher(line);
            if (line.equals("ArrayWords words = new ArrayWords();")) {
                words = new ArrayWords();
            } else if (call.matches() && words != null) {
                call(words, line, call);
            } else {
                Check.due("a line of an example: " + line, line.isEmpty(), true);
            }
        }
    }

    private static void call(ArrayWords words, String line, Matcher call) throws ReflectiveOperationException {
        List<Integer> numbers = new ArrayList<>();
        for (String number : call.group(2).split(", ")) {
            if (!number.isEmpty()) {
                numbers.add(Integer.parseInt(number));
            }
        }
        Class<?>[] types = new Class<?>[numbers.size()];
        java.util.Arrays.fill(types, int.class);
        Method method = ArrayWords.class.getMethod(call.group(1), types);
        Object answer = method.invoke(words, numbers.toArray());
        shown.add(call.group(1));
        if (method.getReturnType() == void.class) {
            Check.due("an answer in " + line, call.group(3) == null, true);
            return;
        }
        Check.due(line, answer.toString(), number("" + call.group(3)));
        if (call.group(1).equals("tokens") && (int) answer >= 0) {
            numbers.removeIf(token -> token == -1);
            Check.due("the words of " + line, words(numbers), call.group(4));
        }
    }

    /** The number of the code, if the word is one. */
    private static String number(String word) throws ReflectiveOperationException {
        return word.matches("[A-Z_]+") ? "" + ArrayWords.class.getField(word).getInt(null) : word;
    }

    private static String words(List<Integer> tokens) {
        return String.join(" ", tokens.stream().map(Check::word).toList());
    }

    private static void texts(List<String> lines) throws ReflectiveOperationException {
        Set<String> answers = new TreeSet<>();
        for (Matcher row : rows(TEXT_ROW, lines)) {
            ArrayWords x = new ArrayWords();
            Check.due("run of " + row.group(1), "" + Check.run(x, row.group(1)), number(row.group(2)));
            Check.due("the result of " + row.group(1), Check.result(x), row.group(3));
            answers.add(row.group(2));
        }
        Check.due("what run answers in the table of texts", answers, new TreeSet<>(Set.of("0", "1", "2", "SYNTAX",
                "VALUE", "VALENCE", "RANK", "LENGTH", "DOMAIN", "LIMIT")));
    }

    private static void calls(List<String> lines) {
        Set<String> listed = new TreeSet<>();
        for (Matcher row : rows(CALL_ROW, lines)) {
            listed.add(row.group(1));
            int count = row.group(2).isEmpty() ? 0 : row.group(2).split(", ").length;
            for (Method method : ArrayWords.class.getMethods()) {
                if (method.getName().equals(row.group(1))) {
                    Check.due("the arguments of " + row.group(1), count, method.getParameterCount());
                }
            }
        }
        Check.due("the table of calls", listed, publicMethods());
    }

    private static void codes(List<String> lines) throws ReflectiveOperationException {
        Set<String> listed = new TreeSet<>();
        for (Matcher row : rows(CODE_ROW, lines)) {
            listed.add(row.group(1));
            Check.due("the number of " + row.group(1), row.group(2), number(row.group(1)));
        }
        Set<String> codes = new TreeSet<>();
        Stream.of(ArrayWords.class.getFields()).forEach(field -> codes.add(field.getName()));
        Check.due("the table of codes", listed, codes);
    }

    private static void tokens(List<String> lines) {
        int listed = 0;
        for (Matcher row : rows(TOKEN_ROW, lines)) {
            List<Integer> tokens = new ArrayList<>();
            for (int t = Integer.parseInt(row.group(1)); t <= Integer.parseInt(row.group(2)); t++) {
                Check.due("token " + t, new ArrayWords().tokens(t, -1, -1, -1), 1);
                tokens.add(t);
            }
            Check.due("the words of tokens " + tokens, row.group(3), words(tokens));
            listed += tokens.size();
        }
        int all = 0;
        for (int t = 0; t < 100; t++) {
            all += new ArrayWords().tokens(t, -1, -1, -1) == 1 ? 1 : 0;
        }
        Check.due("tokens in the table", listed, all);
    }

    private static void tests(List<String> lines) throws IOException {
        Set<String> named = new TreeSet<>();
        for (String line : lines) {
            if (line.startsWith("- ")) {
                found(TEST_NAME, line).forEach(name -> named.add(name.group(1)));
            }
        }
        Set<String> there = new TreeSet<>();
        try (Stream<Path> files = Files.list(Path.of("src/test/java"))) {
            files.map(file -> file.getFileName().toString().replace(".java", ""))
                    .filter(name -> name.endsWith("Test")).forEach(there::add);
        }
        Check.due("the tests in README.md", named, there);
    }
}
