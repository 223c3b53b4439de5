import java.io.IOException;
import java.lang.reflect.Method;
import java.lang.reflect.Modifier;
import java.nio.file.DirectoryStream;
import java.nio.file.Files;
import java.nio.file.Path;
import java.util.Arrays;
import java.util.List;
import java.util.TreeSet;
import java.util.regex.Matcher;
import java.util.regex.Pattern;

/** README.md is true: its examples are run, its lists of calls, constants and tests are compared. */
public final class ReadmeTest {
    private static final Path PAGE = Path.of("README.md");
    private static final Path TESTS = Path.of("src/test/java");

    private static final String NEW_STORE = "NamedMoves store = new NamedMoves();";
    private static final Pattern CALL = Pattern.compile("store\\.(\\w+)\\(([-0-9, ]*)\\); +// (-?[0-9]+)(:.*)?");
    private static final Pattern APPEND = Pattern.compile(
            "for \\(char character : \"([^\"]*)\"\\.toCharArray\\(\\)\\) \\{ store\\.append\\(character\\); \\}");
    private static final Pattern LISTED_CALL = Pattern.compile("\\| `(\\w+)\\(([a-z, ]*)\\)` \\|.*\\|");
    private static final Pattern LISTED_CONSTANT = Pattern.compile("\\| (-[0-9]+) \\| `([A-Z_]+)` \\|.*\\|");
    private static final Pattern LISTED_TEST = Pattern.compile("\\| (\\w+Test) \\|.*\\|");

    private static final Due due = new Due("Readme");

    public static void main(String[] args) throws IOException, ReflectiveOperationException {
        List<String> lines = Files.readAllLines(PAGE);
        examples(lines);
        listedCalls(lines);
        listedConstants(lines);
        listedTests(lines);
        due.end();
    }

    private static void examples(List<String> lines) throws ReflectiveOperationException {
        NamedMoves store = null;
        boolean inExample = false;
        int examples = 0;
        for (String line : lines) {
            if (line.startsWith("```")) {
                inExample = line.equals("```java");
                examples += inExample ? 1 : 0;
            } else if (inExample && line.equals(NEW_STORE)) {
                store = new NamedMoves();
            } else if (inExample) {
                runLine(store, line);
            }
        }
        due.holds("there are examples", examples > 0);
    }

    private static void runLine(NamedMoves store, String line) throws ReflectiveOperationException {
        Matcher text = APPEND.matcher(line);
        Matcher call = CALL.matcher(line);
        if (text.matches()) {
            for (char character : text.group(1).toCharArray()) {
                store.append(character);
            }
        } else if (call.matches()) {
            due.same(line, answer(store, call.group(1), call.group(2)), Integer.parseInt(call.group(3)));
        } else {
            due.holds("this test can read the line: " + line, false);
        }
    }

    private static int answer(NamedMoves store, String name, String list) throws ReflectiveOperationException {
        String[] words = list.isEmpty() ? new String[0] : list.split(", ");
        Object[] arguments = new Object[words.length];
        Class<?>[] types = new Class<?>[words.length];
        for (int index = 0; index < words.length; index++) {
            arguments[index] = Integer.valueOf(words[index]);
            types[index] = int.class;
        }
        return (Integer) NamedMoves.class.getMethod(name, types).invoke(store, arguments);
    }

    private static void listedCalls(List<String> lines) {
        TreeSet<String> listed = new TreeSet<>();
        for (String line : lines) {
            Matcher row = LISTED_CALL.matcher(line);
            if (row.matches()) {
                int parameters = row.group(2).isEmpty() ? 0 : row.group(2).split(", ").length;
                due.holds(row.group(1) + " is listed once", listed.add(row.group(1) + "/" + parameters));
            }
        }
        TreeSet<String> open = new TreeSet<>();
        for (Method method : NamedMoves.class.getDeclaredMethods()) {
            if (Modifier.isPublic(method.getModifiers())) {
                open.add(method.getName() + "/" + method.getParameterCount());
            }
        }
        due.holds("the calls listed, " + listed + ", are " + open, listed.equals(open));
    }

    private static void listedConstants(List<String> lines) throws ReflectiveOperationException {
        TreeSet<String> listed = new TreeSet<>();
        for (String line : lines) {
            Matcher row = LISTED_CONSTANT.matcher(line);
            if (row.matches()) {
                listed.add(row.group(2));
                due.same(row.group(2), NamedMoves.class.getField(row.group(2)).getInt(null),
                        Integer.parseInt(row.group(1)));
            }
        }
        due.holds("the constants are listed", listed.equals(new TreeSet<>(Arrays.asList(
                "INVALID_ARGUMENT", "ILLEGAL_STATE", "CAPACITY_EXCEEDED", "NONE"))));
    }

    private static void listedTests(List<String> lines) throws IOException {
        TreeSet<String> listed = new TreeSet<>();
        for (String line : lines) {
            Matcher row = LISTED_TEST.matcher(line);
            if (row.matches()) {
                listed.add(row.group(1) + ".java");
            }
        }
        TreeSet<String> there = new TreeSet<>();
        try (DirectoryStream<Path> files = Files.newDirectoryStream(TESTS, "*Test.java")) {
            for (Path file : files) {
                there.add(file.getFileName().toString());
            }
        }
        due.holds("the tests listed, " + listed + ", are " + there, listed.equals(there));
    }
}
