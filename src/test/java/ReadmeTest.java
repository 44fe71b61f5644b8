import java.io.IOException;
import java.lang.reflect.Method;
import java.net.URL;
import java.net.URLClassLoader;
import java.nio.file.Files;
import java.nio.file.Path;
import java.util.ArrayList;
import java.util.List;
import java.util.TreeSet;
import java.util.regex.Matcher;
import java.util.regex.Pattern;
import java.util.stream.Stream;
import javax.tools.ToolProvider;

/** README.md: its example with the answers that it names, the calls and the tests that it lists. */
public final class ReadmeTest {
    private static final Pattern BLOCK = Pattern.compile("```java\n(.*?)```", Pattern.DOTALL);
    /** A call with the answer that is named for it. */
    private static final Pattern ANSWERED = Pattern.compile("(post\\.\\w+\\(.*\\)); *// (-?[0-9]+|RopePost\\.[A-Z]+): .+");
    private static final Path TESTS = Path.of("src/test/java");

    private ReadmeTest() {
    }

    public static void main(String[] args) throws Exception {
        String page = Files.readString(Path.of("README.md"));
        example(page);
        allCalls(page);
        allTests(page);
        Check.end("ReadmeTest");
    }

    private static void example(String page) throws Exception {
        StringBuilder body = new StringBuilder();
        List<String> calls = new ArrayList<>();
        Matcher block = BLOCK.matcher(page);
        while (block.find()) {
            for (String line : block.group(1).split("\n")) {
                Matcher answered = ANSWERED.matcher(line);
                if (answered.matches()) {
                    calls.add(answered.group(1));
                    line = "row.add(" + answered.group(1) + "); row.add(" + answered.group(2) + ");";
                } else {
                    Check.due("the answer of '" + line + "' is named", line.startsWith("post.") ? 0 : 1, 1);
                }
                body.append(line).append('\n');
            }
        }
        Check.due("a dozen calls in the example", calls.size() >= 12 ? 1 : 0, 1);
        List<Integer> row = run(body.toString());
        Check.due("answers of the example", row.size(), 2L * calls.size());
        for (int k = 0; 2 * k + 1 < row.size(); k++) {
            Check.due("README: " + calls.get(k), row.get(2 * k), row.get(2 * k + 1));
        }
    }

    /** Each answer, and behind it the one that is named; an empty row where the example does not compile. */
    private static List<Integer> run(String body) throws Exception {
        Path folder = Files.createTempDirectory("readme");
        try {
            Path source = folder.resolve("ReadmeExample.java");
            Files.writeString(source, "public final class ReadmeExample {\npublic static java.util.List<Integer> run() {\n"
                + "java.util.List<Integer> row = new java.util.ArrayList<>();\n" + body + "return row;\n}\n}\n");
            int code = ToolProvider.getSystemJavaCompiler().run(null, null, null, "-cp", System.getProperty("java.class.path"),
                "-d", folder.toString(), source.toString());
            Check.due("javac of the example", code, 0);
            return code == 0 ? answers(folder) : List.of();
        } finally {
            Check.remove(folder);
        }
    }

    private static List<Integer> answers(Path folder) throws Exception {
        List<Integer> row = new ArrayList<>();
        try (URLClassLoader loader = new URLClassLoader(new URL[] {folder.toUri().toURL()})) {
            Method run = loader.loadClass("ReadmeExample").getMethod("run");
            for (Object answer : (List<?>) run.invoke(null)) {
                row.add((Integer) answer);
            }
        }
        return row;
    }

    private static void allCalls(String page) {
        for (Method method : RopePost.class.getDeclaredMethods()) {
            if (java.lang.reflect.Modifier.isPublic(method.getModifiers())) {
                Matcher named = Pattern.compile("`" + method.getName() + "\\(([^`)]*)\\)`").matcher(page);
                String arguments = named.find() ? named.group(1) : "?";
                int count = arguments.isEmpty() ? 0 : arguments.split(", ").length;
                Check.due("README names " + method.getName() + ": " + arguments, count, method.getParameterCount());
                Check.due("README names " + method.getName(), arguments.equals("?") ? 0 : 1, 1);
            }
        }
    }

    /** Every file of tests is named, and none that there is not. */
    private static void allTests(String page) throws IOException {
        TreeSet<String> files = new TreeSet<>(), named = new TreeSet<>();
        try (Stream<Path> all = Files.list(TESTS)) {
            all.forEach(file -> files.add(file.getFileName().toString().replace(".java", "")));
        }
        Matcher name = Pattern.compile("`(\\w+Test|Check|Twins|Model)`").matcher(page);
        while (name.find()) {
            named.add(name.group(1));
        }
        Check.due("README names " + named + " of " + files, named.equals(files) ? 1 : 0, 1);
    }
}
