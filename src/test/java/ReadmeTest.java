import java.io.IOException;
import java.lang.reflect.Method;
import java.lang.reflect.Modifier;
import java.nio.file.Files;
import java.nio.file.Path;
import java.util.ArrayList;
import java.util.List;
import java.util.regex.Matcher;
import java.util.regex.Pattern;

/** What README.md says of the class: its example, its lines of text and its calls. */
public final class ReadmeTest {
    private static final Check CHECK = new Check();
    private static final Pattern CALL = Pattern.compile("x\\.(\\w+)\\((.*?)\\); *// (-?\\d+|true|false)\\b.*");
    private static final Pattern LINE = Pattern.compile("\\| (?:`([^`]*)` )?\\| (-\\d+|0) \\|.*");

    public static void main(String[] args) throws Exception {
        List<String> readme = Files.readAllLines(Path.of("README.md"));
        example(readme);
        linesOfText(readme);
        everyCallIsTold(readme);
        everyTestIsTold(readme);
        CHECK.end();
    }

    private static void example(List<String> readme) throws Exception {
        int from = readme.indexOf("```java") + 1;
        List<String> calls = readme.subList(from, from + readme.subList(from, readme.size()).indexOf("```"));
        CHECK.due("the example begins with new SpeciesRounds(5)",
                calls.get(0).startsWith("SpeciesRounds x = new SpeciesRounds(5);"), true);
        SpeciesRounds x = new SpeciesRounds(5);
        for (String call : calls.subList(1, calls.size())) {
            Matcher parts = CALL.matcher(call);
            CHECK.due("the form of '" + call + "'", parts.matches(), true);
            if (parts.matches()) {
                Object got = answer(x, parts.group(1), parts.group(2));
                CHECK.dueText(call, got.toString(), parts.group(3));
            }
        }
    }

    private static Object answer(SpeciesRounds x, String name, String arguments) throws Exception {
        List<Class<?>> types = new ArrayList<>();
        List<Object> values = new ArrayList<>();
        for (String argument : arguments.isEmpty() ? new String[0] : arguments.split(", ")) {
            boolean isChar = argument.startsWith("'");
            types.add(isChar ? char.class : int.class);
            values.add(isChar ? (Object) argument.charAt(1) : (Object) Integer.valueOf(argument));
        }
        Method method = SpeciesRounds.class.getMethod(name, types.toArray(new Class<?>[0]));
        return method.invoke(x, values.toArray());
    }

    private static void linesOfText(List<String> readme) {
        int seen = 0;
        for (String row : readme) {
            Matcher parts = LINE.matcher(row);
            if (parts.matches()) {
                seen++;
                String text = parts.group(1) == null ? "" : parts.group(1);
                CHECK.due("enter() of '" + text + "'", Check.enter(new SpeciesRounds(5), text),
                        Integer.parseInt(parts.group(2)));
            }
        }
        CHECK.due("rows of text", seen, 13);
    }

    private static void everyCallIsTold(List<String> readme) {
        for (Method method : SpeciesRounds.class.getDeclaredMethods()) {
            if (Modifier.isPublic(method.getModifiers())) {
                String begin = "| `" + method.getName() + "(";
                CHECK.due("a row for " + method.getName(), readme.stream().anyMatch(row -> row.startsWith(begin)), true);
            }
        }
    }

    private static void everyTestIsTold(List<String> readme) throws IOException {
        try (var files = Files.list(Path.of("src/test/java"))) {
            for (Path file : (Iterable<Path>) files::iterator) {
                String name = "`" + file.getFileName().toString().replace(".java", "") + "`";
                CHECK.due(name + " is told", readme.stream().anyMatch(row -> row.contains(name)), true);
            }
        }
    }
}
