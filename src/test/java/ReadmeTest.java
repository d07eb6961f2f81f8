import java.io.File;
import java.io.IOException;
import java.lang.reflect.Method;
import java.lang.reflect.Modifier;
import java.net.URL;
import java.net.URLClassLoader;
import java.nio.charset.StandardCharsets;
import java.nio.file.Files;
import java.nio.file.Path;
import java.util.ArrayList;
import java.util.List;
import java.util.regex.Matcher;
import java.util.regex.Pattern;

/** README.md, as it stands: its example, its table of calls and its table of tests. */
final class ReadmeTest {
    private static final Path TESTS = Path.of("src/test/java");
    /** A call of the example that tells its answer at the end of its line. */
    private static final Pattern TOLD = Pattern.compile("(works\\..*); +// (true|false|-?\\d+)\\b.*");
    /** A row of the table of calls: what it answers, the name, the parameters, the exceptions. */
    private static final Pattern ROW = Pattern.compile("\\| `(\\w+) (\\w+)\\((.*)\\)` \\|.*\\|([^|]*)\\|");

    public static void main(String[] args) throws Exception {
        List<String> page = Files.readAllLines(Path.of("README.md"), StandardCharsets.UTF_8);
        exampleAnswersWhatItSays(page);
        eachCallIsInTheTable(page);
        eachTestIsNamed(page);
        Checks.end();
    }

    private static void exampleAnswersWhatItSays(List<String> page) throws Exception {
        Checks.part("README: the example");
        List<String> calls = new ArrayList<>();
        List<String> told = new ArrayList<>();
        StringBuilder body = new StringBuilder();
        for (String line : example(page)) {
            Matcher m = TOLD.matcher(line);
            boolean tells = m.matches();
            if (tells) {
                calls.add(m.group(1));
                told.add(m.group(2));
            }
            body.append(tells ? "got.add(" + m.group(1) + ");" : line).append('\n');
        }
        List<?> got = answersOf(body.toString());
        Checks.is(true, () -> told.size() > 10);
        Checks.is(told.size(), () -> got.size());
        for (int i = 0; i < told.size(); i++) {
            int at = i;
            Checks.is(calls.get(at) + " " + told.get(at), () -> calls.get(at) + " " + got.get(at));
        }
    }

    private static List<String> example(List<String> page) {
        List<String> rest = page.subList(page.indexOf("```java") + 1, page.size());
        return rest.subList(0, rest.indexOf("```"));
    }

    /** What the calls of the example answer, one after the other. */
    private static List<?> answersOf(String body) throws Exception {
        Path dir = Files.createTempDirectory("readme");
        try {
            Path source = dir.resolve("Example.java");
            Files.writeString(source, "public final class Example {\n"
                    + "public static java.util.List<Object> answers() {\n"
                    + "java.util.List<Object> got = new java.util.ArrayList<>();\n"
                    + body + "return got;\n}\n}\n");
            int failed = new ProcessBuilder("javac", "-cp", System.getProperty("java.class.path"),
                    "-d", dir.toString(), source.toString()).inheritIO().start().waitFor();
            Checks.is(0, () -> failed);
            return failed == 0 ? answersOf(dir) : List.of();
        } finally {
            remove(dir);
        }
    }

    private static List<?> answersOf(Path dir) throws Exception {
        try (URLClassLoader loader = new URLClassLoader(new URL[] {dir.toUri().toURL()})) {
            return (List<?>) loader.loadClass("Example").getMethod("answers").invoke(null);
        }
    }

    private static void remove(Path dir) throws IOException {
        for (File file : dir.toFile().listFiles()) {
            Files.delete(file.toPath());
        }
        Files.delete(dir);
    }

    private static void eachCallIsInTheTable(List<String> page) {
        Checks.part("README: the table of calls");
        List<String> rows = new ArrayList<>();
        for (String line : page) {
            Matcher m = ROW.matcher(line);
            if (m.matches()) {
                rows.add(m.group(1) + " " + m.group(2) + "(" + types(m.group(3)) + ") " + m.group(4).trim());
            }
        }
        int calls = 0;
        for (Method method : WaterWorks.class.getDeclaredMethods()) {
            if (Modifier.isPublic(method.getModifiers())) {
                String call = face(method);
                Checks.is(call + " true", () -> call + " " + rows.contains(call));
                calls++;
            }
        }
        int all = calls;
        Checks.is(all, () -> rows.size());
    }

    /** The types of parameters that are told with their names. */
    private static String types(String parameters) {
        return parameters.replaceAll(" \\w+(?=,|$)", "");
    }

    private static String face(Method method) {
        List<String> types = new ArrayList<>();
        for (Class<?> type : method.getParameterTypes()) {
            types.add(type.getSimpleName());
        }
        List<String> thrown = new ArrayList<>();
        for (Class<?> type : method.getExceptionTypes()) {
            thrown.add(shortName(type.getSimpleName()));
        }
        return method.getReturnType().getSimpleName() + " " + method.getName() + "("
                + String.join(", ", types) + ") " + String.join(", ", thrown);
    }

    private static String shortName(String exception) {
        return exception.replaceAll("^Illegal|OutOfBounds|Element|Exception$", "");
    }

    private static void eachTestIsNamed(List<String> page) {
        Checks.part("README: the table of tests");
        for (String file : TESTS.toFile().list()) {
            String name = file.replace(".java", "");
            Checks.is(name + " true", () -> name + " " + String.join("\n", page).contains("`" + name + "`"));
        }
    }
}
