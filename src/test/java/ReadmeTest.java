import java.io.IOException;
import java.net.URL;
import java.net.URLClassLoader;
import java.nio.file.Files;
import java.nio.file.Path;
import java.util.Comparator;
import java.util.List;
import java.util.TreeSet;
import java.util.regex.Matcher;
import java.util.regex.Pattern;
import java.util.stream.Collectors;
import java.util.stream.Stream;
import javax.tools.ToolProvider;

/** README.md says what is so: its example compiles and answers that, and its tests are these. */
public final class ReadmeTest {

    private static final Pattern EXAMPLE = Pattern.compile("```java\n(.*?)```", Pattern.DOTALL);
    private static final Pattern ANSWER =
            Pattern.compile("\\s*(x\\..*\\));\\s*// answers (-?\\d+)\\b.*");
    private static final Pattern TEST = Pattern.compile("`(\\w+Test)`");
    private static final Path TESTS = Path.of("src/test/java");

    private ReadmeTest() {
    }

    public static void main(String[] args) throws Exception {
        String readme = Files.readString(Path.of("README.md"));
        example(readme);
        namesOfTests(readme);
        Check.due("what runs the tests can be run", 1, Files.isExecutable(Path.of(".ci/run")) ? 1 : 0);
        Check.end();
    }

    private static void example(String readme) throws Exception {
        Matcher block = EXAMPLE.matcher(readme);
        if (!block.find()) {
            Check.fail("README.md has no example");
            return;
        }
        Path made = Files.createTempDirectory("readme");
        try {
            Path source = made.resolve("ReadmeExample.java");
            Files.writeString(source, program(block.group(1)));
            int code = ToolProvider.getSystemJavaCompiler().run(null, null, null, "-proc:none",
                    "-cp", System.getProperty("java.class.path"), source.toString());
            Check.due("the example, compiled,", 0, code);
            if (code == 0) {
                run(made);
            }
        } finally {
            remove(made);
        }
    }

    /** The example as it stands there, but that each answer is looked at; what is wrong is told. */
    private static String program(String example) {
        StringBuilder text = new StringBuilder();
        text.append("public final class ReadmeExample {\n");
        text.append("    public static String go() {\n");
        text.append("StringBuilder wrong = new StringBuilder();\n");
        int answers = 0;
        for (String line : example.split("\n")) {
            Matcher answer = ANSWER.matcher(line);
            if (answer.matches()) {
                answers++;
                text.append("if (").append(answer.group(1)).append(" != ").append(answer.group(2))
                        .append(") wrong.append(\"").append(line.strip()).append("; \");\n");
            } else {
                text.append(line).append('\n');
            }
        }
        Check.due("answers in the example, each with its number", answers,
                example.split("// answers", -1).length - 1);
        Check.due("there are answers in the example", 1, answers > 0 ? 1 : 0);
        return text.append("return wrong.toString();\n    }\n}\n").toString();
    }

    private static void run(Path made) throws Exception {
        URL[] where = {made.toUri().toURL()};
        try (URLClassLoader loader = new URLClassLoader(where)) {
            Object wrong = loader.loadClass("ReadmeExample").getMethod("go").invoke(null);
            Check.dueText("what is wrong in the example", "", String.valueOf(wrong));
        }
    }

    private static void remove(Path made) throws IOException {
        try (Stream<Path> all = Files.walk(made)) {
            List<Path> each = all.sorted(Comparator.reverseOrder()).collect(Collectors.toList());
            for (Path path : each) {
                Files.delete(path);
            }
        }
    }

    private static void namesOfTests(String readme) throws IOException {
        TreeSet<String> told = new TreeSet<>();
        Matcher test = TEST.matcher(readme);
        while (test.find()) {
            told.add(test.group(1));
        }
        try (Stream<Path> files = Files.list(TESTS)) {
            String there = files.map(file -> file.getFileName().toString())
                    .filter(name -> name.endsWith("Test.java"))
                    .map(name -> name.substring(0, name.length() - ".java".length()))
                    .collect(Collectors.toCollection(TreeSet::new)).toString();
            Check.dueText("the tests that README.md names", there, told.toString());
        }
    }
}
