import java.io.IOException;
import java.lang.reflect.InvocationTargetException;
import java.lang.reflect.Method;
import java.nio.file.Files;
import java.nio.file.Path;
import java.util.ArrayList;
import java.util.Arrays;
import java.util.List;
import java.util.Set;
import java.util.TreeSet;
import java.util.regex.MatchResult;
import java.util.regex.Matcher;
import java.util.regex.Pattern;
import java.util.stream.Collectors;
import java.util.stream.Stream;

/** What README.md says of using the class and of running its tests is true. */
public final class ReadmeTest {
    private static final Path TESTS = Path.of("src/test/java");
    private static final Pattern CALL = Pattern.compile("x\\.(\\w+)\\((.*)\\);\\s*// (.*)");
    private static final Pattern ANSWER = Pattern.compile("('.'|-?\\d+|true|false|throws \\w+)(?:: (.*))?");
    private static final String TEXT_IS = "the text is ";
    private static final String[] KINDS = {
        "null", "true", "1", "\"~m1\"", "\"a\"", "\"~:a\"", "\"~$a\"", "\"~ca\"",
        "[]", "[\"~#list\",[]]", "[\"~#set\",[]]", "[\"^ \"]", "\"~xa\""
    };

    public static void main(String[] args) throws IOException {
        String readme = Files.readString(Path.of("README.md"));
        example(block(readme, "java"));
        callsAreNamed(readme);
        kindsAreNumbered(readme);
        limits(readme);
        commands(readme);
        testsAreListed(readme);
        Check.end();
    }

    private static List<String> block(String readme, String language) {
        Matcher found = Pattern.compile("(?s)```" + language + "\n(.*?)```").matcher(readme);
        List<String> lines = new ArrayList<>();
        while (found.find()) {
            lines.addAll(found.group(1).lines().toList());
        }
        return lines;
    }

    private static void example(List<String> lines) {
        Check.due("first line", lines.get(0), "RollingTransit x = new RollingTransit();");
        Probe p = new Probe();
        for (String line : lines.subList(1, lines.size())) {
            Matcher call = CALL.matcher(line);
            Check.due("a call with its answer: " + line, call.matches(), true);
            Matcher answer = ANSWER.matcher(call.group(3));
            Check.due("an answer: " + line, answer.matches(), true);
            String due = answer.group(1).startsWith("'") ? "" + (int) answer.group(1).charAt(1) : answer.group(1);
            Check.due(line, answerOf(p.x, call.group(1), numbers(call.group(2))), due);
            String words = answer.group(2);
            if (words != null && words.startsWith(TEXT_IS)) {
                Check.due("text behind " + line, p.text(), words.substring(TEXT_IS.length()));
            }
        }
    }

    private static String answerOf(RollingTransit x, String name, List<Integer> given) {
        try {
            return String.valueOf(method(name).invoke(x, given.toArray()));
        } catch (InvocationTargetException e) {
            return "throws " + e.getCause().getClass().getSimpleName();
        } catch (IllegalAccessException e) {
            throw new AssertionError(e);
        }
    }

    private static Method method(String name) {
        for (Method m : RollingTransit.class.getDeclaredMethods()) {
            if (m.getName().equals(name)) {
                return m;
            }
        }
        throw new AssertionError("no method " + name);
    }

    /** The values of expressions of numbers and characters with << and | , and commas between them. */
    private static List<Integer> numbers(String given) {
        List<Integer> all = new ArrayList<>();
        int sum = 0;
        int term = 0;
        boolean shifting = false;
        for (MatchResult found : Pattern.compile("'.'|\\d+|<<|[|,]").matcher(given + ",").results().toList()) {
            String token = found.group();
            if (token.equals("<<")) {
                shifting = true;
            } else if (token.equals("|") || token.equals(",")) {
                sum |= term;
                if (token.equals(",")) {
                    all.add(sum);
                    sum = 0;
                }
            } else {
                int value = token.startsWith("'") ? token.charAt(1) : Integer.parseInt(token);
                term = shifting ? term << value : value;
                shifting = false;
            }
        }
        return given.isEmpty() ? List.of() : all;
    }

    private static void callsAreNamed(String readme) {
        Set<String> named = new TreeSet<>();
        for (String line : readme.lines().toList()) {
            if (line.startsWith("| `")) {
                Matcher calls = Pattern.compile("`(\\w+\\([a-z, ]*\\))`").matcher(line);
                while (calls.find()) {
                    named.add(calls.group(1).replaceAll("\\w+(?=[,)])", "int"));
                }
            }
        }
        Set<String> due = new TreeSet<>();
        for (Method m : RollingTransit.class.getMethods()) {
            if (m.getDeclaringClass() == RollingTransit.class) {
                due.add(m.getName() + Arrays.stream(m.getParameterTypes()).map(Class::getName)
                        .collect(Collectors.joining(", ", "(", ")")));
            }
        }
        Check.due("calls in the table", named, due);
        Check.due("NONE", readme.contains("`NONE`, which is " + RollingTransit.NONE + ","), true);
    }

    private static void kindsAreNumbered(String readme) {
        String flat = readme.replaceAll("\\s+", " ");
        String names = "NULL BOOLEAN INTEGER INSTANT STRING KEYWORD SYMBOL CHARACTER ARRAY LIST SET MAP TAGGED";
        String[] name = names.split(" ");
        for (int kind = 0; kind < KINDS.length; kind++) {
            Probe p = new Probe().put(KINDS[kind]);
            p.read(0);
            Check.due("kind of " + KINDS[kind], p.x.kind(0, 0), kind);
            String words = kind + " " + name[kind];
            Check.due("README.md has " + words, Pattern.compile("\\b" + words + "\\b").matcher(flat).find(), true);
        }
    }

    private static void limits(String readme) {
        Matcher most = Pattern.compile("A text has at most (\\d+) characters").matcher(readme);
        Check.due("the room of a text is told", most.find(), true);
        int room = Integer.parseInt(most.group(1));
        Probe p = new Probe().put(" ".repeat(room));
        Check.due("one character more than " + room, p.x.type(' '), false);
        Matcher written = Pattern.compile("`write`: more than (\\d+) characters, or more than (\\d+) arrays")
                .matcher(readme);
        Check.due("what is too much to write is told", written.find(), true);
        Check.due("the room of what is written", Integer.parseInt(written.group(1)), room);
        int deep = Integer.parseInt(written.group(2));
        Check.due(deep + " arrays", writtenInArrays(deep, "5"), String.valueOf(2 * deep + 1));
        Check.due(deep + " arrays, and one that the tag takes", writtenInArrays(deep, "\"~xa\""), Edge.TOO_MUCH);
    }

    private static String writtenInArrays(int deep, String inside) {
        Probe p = new Probe().put("[".repeat(deep) + inside + "]".repeat(deep));
        p.read(0);
        return Probe.answer(() -> p.x.write(0));
    }

    private static void commands(String readme) {
        List<String> lines = block(readme, "sh");
        Check.due("how the tests are run", lines.get(0), ".ci/run");
        Check.due(".ci/run can be run", Files.isExecutable(Path.of(".ci/run")), true);
        for (String line : lines) {
            Matcher named = Pattern.compile("\\b(\\w+Test)\\b").matcher(line);
            while (named.find()) {
                Check.due(line, Files.exists(TESTS.resolve(named.group(1) + ".java")), true);
            }
        }
    }

    private static void testsAreListed(String readme) throws IOException {
        Set<String> listed = new TreeSet<>();
        for (String line : readme.lines().toList()) {
            Matcher row = Pattern.compile("\\| `(\\w+Test)` \\| .+ \\|").matcher(line);
            if (row.matches()) {
                Check.due("listed once: " + row.group(1), listed.add(row.group(1)), true);
            }
        }
        try (Stream<Path> files = Files.list(TESTS)) {
            Set<String> due = files.map(file -> file.getFileName().toString()).filter(name -> name.endsWith("Test.java"))
                    .map(name -> name.replace(".java", "")).collect(Collectors.toCollection(TreeSet::new));
            Check.due("tests in the table", listed, due);
        }
    }
}
