import java.io.IOException;
import java.lang.reflect.Method;
import java.lang.reflect.Modifier;
import java.nio.file.DirectoryStream;
import java.nio.file.Files;
import java.nio.file.Path;
import java.util.ArrayList;
import java.util.List;
import java.util.Map;
import java.util.Set;
import java.util.TreeSet;
import java.util.regex.Matcher;
import java.util.regex.Pattern;

/** README.md: what it tells of the class is so, and nothing of the face is missing in it. */
public final class ReadmeTest {
    private static final Map<String, Integer> CODES = Map.of("BAD", -1, "NO", -2, "FULL", -3, "RANGE", -4);
    private static final Pattern SIGNATURE = Pattern.compile("^\\| \\d+ \\| `((?:int|boolean) \\w+\\(.*?\\))` \\|");
    private static final Pattern EXAMPLE = Pattern.compile("^paths\\.(\\w+)\\((.*?)\\); +// (\\S+?):.*$");

    public static void main(String[] args) {
        Checking.runAll(ReadmeTest.class, "readme");
    }

    private static List<String> readme() throws IOException {
        return Files.readAllLines(Path.of("README.md"));
    }

    private static Set<String> callsOfTheClass() {
        Set<String> calls = new TreeSet<>();
        for (Method method : CurvePaths.class.getDeclaredMethods()) {
            if (Modifier.isPublic(method.getModifiers())) {
                List<String> types = new ArrayList<>();
                for (Class<?> type : method.getParameterTypes()) {
                    types.add(type.getName());
                }
                calls.add(method.getReturnType() + " " + method.getName() + "(" + String.join(", ", types) + ")");
            }
        }
        return calls;
    }

    static void readme_tellsEachCallOfTheFaceAndNoOther() throws IOException {
        Set<String> told = new TreeSet<>();
        for (String line : readme()) {
            Matcher row = SIGNATURE.matcher(line);
            if (row.find()) {
                told.add(row.group(1).replaceAll("int \\w+(?=[,)])", "int"));
            }
        }
        Checking.due("the calls of README.md", told, callsOfTheClass());
    }

    static void readme_tellsEachCodeWithItsNumber() throws IOException {
        String page = String.join("\n", readme());
        for (Map.Entry<String, Integer> code : CODES.entrySet()) {
            String row = "\n| `" + code.getKey() + "` | " + code.getValue() + " | ";
            Checking.due("a row for " + code.getKey(), page.contains(row), true);
        }
    }

    static void readme_showsEachCallInItsExampleWithWhatItAnswers() throws IOException, ReflectiveOperationException {
        CurvePaths paths = new CurvePaths();
        Set<String> shown = new TreeSet<>();
        for (String line : readme()) {
            Matcher call = EXAMPLE.matcher(line);
            if (call.matches()) {
                shown.add(call.group(1));
                Object answer = called(paths, call.group(1), call.group(2));
                String told = call.group(3);
                Object due = CODES.containsKey(told) ? CODES.get(told) : told;
                Checking.due(line, String.valueOf(answer), String.valueOf(due));
            } else {
                Checking.due("has a call and its answer: " + line, line.startsWith("paths."), false);
            }
        }
        Checking.due("so many calls are shown", shown.size(), callsOfTheClass().size());
    }

    private static Object called(CurvePaths paths, String name, String numbers) throws ReflectiveOperationException {
        String[] said = numbers.isEmpty() ? new String[0] : numbers.split(", ");
        Object[] arguments = new Object[said.length];
        Class<?>[] types = new Class<?>[said.length];
        for (int k = 0; k < said.length; k++) {
            arguments[k] = Integer.valueOf(said[k]);
            types[k] = int.class;
        }
        return CurvePaths.class.getMethod(name, types).invoke(paths, arguments);
    }

    static void readme_tellsEachTestOfTheProject() throws IOException {
        String page = String.join("\n", readme());
        try (DirectoryStream<Path> tests = Files.newDirectoryStream(Path.of("src/test/java"), "*.java")) {
            for (Path test : tests) {
                String name = test.getFileName().toString().replace(".java", "");
                Checking.due("the table names " + name, page.contains("`" + name + "`"), true);
            }
        }
    }
}
