import java.io.IOException;
import java.lang.reflect.Method;
import java.lang.reflect.Modifier;
import java.nio.file.Files;
import java.nio.file.Path;
import java.util.List;
import java.util.regex.Matcher;
import java.util.regex.Pattern;
import java.util.stream.Stream;

/** What README.md says is so: its example's answers, the calls, the constants and the tests that it names. */
public final class ReadmeTests {
    private static final Path README = Path.of("README.md");
    private static final Path TESTS = Path.of("src/test/java");
    private static final Pattern EXAMPLE = Pattern.compile("(?s)```java\n(.*?)```");
    private static final Pattern CALL = Pattern.compile("words\\.(\\w+)\\(([^)]*)\\);\\s+// (\\w+).*");
    private static final Pattern CONSTANT = Pattern.compile("- `([A-Z_]+)` \\((-\\d+)\\): .*");
    private static final String FIRST_LINE = "SturmianWords words = new SturmianWords();";

    private static int wrong = 0;

    private static void due(boolean holds, String what) {
        if (!holds) {
            wrong++;
            System.out.println("README.md: " + what);
        }
    }

    public static void main(String[] args) throws IOException, ReflectiveOperationException {
        String text = Files.readString(README);
        example(text);
        constants(text);
        callsNamed(text);
        testsNamed(text);
        System.out.println(wrong == 0 ? "README.md holds" : wrong + " sayings of README.md do not hold");
        if (wrong != 0) {
            System.exit(1);
        }
    }

    private static void example(String text) throws ReflectiveOperationException {
        Matcher block = EXAMPLE.matcher(text);
        if (!block.find()) {
            due(false, "it has no example");
            return;
        }
        List<String> lines = block.group(1).lines().toList();
        due(lines.size() > 1 && lines.get(0).equals(FIRST_LINE), "the example begins with " + FIRST_LINE);
        SturmianWords words = new SturmianWords();
        for (String line : lines.subList(1, lines.size())) {
            Matcher call = CALL.matcher(line);
            if (!call.matches()) {
                due(false, "no call with its answer: " + line);
                continue;
            }
            int answer = answer(words, call.group(1), call.group(2));
            due(answer == meaning(call.group(3)), line + " (it answered " + answer + ")");
        }
    }

    private static int answer(SturmianWords words, String name, String list) throws ReflectiveOperationException {
        String[] texts = list.isEmpty() ? new String[0] : list.split(", ");
        Object[] values = new Object[texts.length];
        Class<?>[] types = new Class<?>[texts.length];
        for (int i = 0; i < texts.length; i++) {
            boolean isBoolean = texts[i].equals("true") || texts[i].equals("false");
            types[i] = isBoolean ? boolean.class : int.class;
            values[i] = isBoolean ? (Object) Boolean.valueOf(texts[i]) : (Object) Integer.valueOf(texts[i]);
        }
        return (Integer) SturmianWords.class.getMethod(name, types).invoke(words, values);
    }

    private static int meaning(String word) throws ReflectiveOperationException {
        return Character.isDigit(word.charAt(0)) ? Integer.parseInt(word) : constant(word);
    }

    private static int constant(String name) throws ReflectiveOperationException {
        return SturmianWords.class.getField(name).getInt(null);
    }

    private static void constants(String text) throws ReflectiveOperationException {
        int found = 0;
        Matcher line = CONSTANT.matcher(text);
        while (line.find()) {
            found++;
            due(constant(line.group(1)) == Integer.parseInt(line.group(2)), line.group());
        }
        due(found == SturmianWords.class.getFields().length, "it tells each constant's number");
    }

    private static void callsNamed(String text) {
        for (Method method : SturmianWords.class.getDeclaredMethods()) {
            if (Modifier.isPublic(method.getModifiers())) {
                due(text.contains("`" + method.getName() + "`"), "it names " + method.getName());
            }
        }
    }

    private static void testsNamed(String text) throws IOException {
        try (Stream<Path> files = Files.list(TESTS)) {
            for (Path file : files.toList()) {
                String name = file.getFileName().toString().replace(".java", "");
                due(text.contains("- `" + name + "`: "), "it tells of " + name);
            }
        }
    }
}
