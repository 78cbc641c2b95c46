import java.io.ByteArrayOutputStream;
import java.lang.reflect.Method;
import java.nio.charset.StandardCharsets;
import java.nio.file.Files;
import java.nio.file.Path;
import java.util.ArrayList;
import java.util.Comparator;
import java.util.List;
import java.util.regex.Matcher;
import java.util.regex.Pattern;
import java.util.stream.Stream;
import javax.tools.ToolProvider;

/** README.md: its example compiles with the class and prints what README.md says, and no call of the face is left out. */
final class ReadmeTests {
    private static final Path PAGE = Path.of("README.md");
    private static final Path PROGRAM = Path.of("src/main/java/AidRegister.java");
    private static final Pattern EXAMPLE = Pattern.compile("(?s)\n```java\n(.*?\n)```\n");
    private static final Pattern ANSWER = Pattern.compile("// prints (.*)");

    private ReadmeTests() {
    }

    static void all() {
        Check.test("README: there is one example of use", () -> Check.same("examples", examples().size(), 1));
        Check.test("README: the example compiles with the class and prints what README says", ReadmeTests::example);
        Check.test("README: it names each method of the face", ReadmeTests::methods);
    }

    private static String page() throws Exception {
        return Files.readString(PAGE, StandardCharsets.UTF_8);
    }

    private static List<String> examples() throws Exception {
        return groups(EXAMPLE, page());
    }

    private static List<String> groups(Pattern pattern, String text) {
        List<String> found = new ArrayList<>();
        Matcher matcher = pattern.matcher(text);
        while (matcher.find()) {
            found.add(matcher.group(1));
        }
        return found;
    }

    private static void example() throws Exception {
        String example = examples().get(0);
        List<String> due = groups(ANSWER, example);
        Check.yes("each line that prints says what", due.size() >= groups(Pattern.compile("(println)\\("), example).size());
        Path directory = Files.createTempDirectory("readme");
        try {
            compile(example, directory);
            Check.same("the example", run(directory), String.join("\n", due) + "\n");
        } finally {
            delete(directory);
        }
    }

    private static void compile(String example, Path directory) throws Exception {
        Path source = directory.resolve("Example.java");
        Files.writeString(source, example, StandardCharsets.UTF_8);
        ByteArrayOutputStream errors = new ByteArrayOutputStream();
        int code = ToolProvider.getSystemJavaCompiler().run(null, errors, errors, "-encoding", "UTF-8", "-Xlint:all", "-Werror",
                "-d", directory.toString(), PROGRAM.toString(), source.toString());
        Check.yes("the example compiles: " + errors, code == 0);
    }

    private static String run(Path directory) throws Exception {
        String java = Path.of(System.getProperty("java.home"), "bin", "java").toString();
        Process process = new ProcessBuilder(java, "-cp", directory.toString(), "Example").redirectErrorStream(true).start();
        String output = new String(process.getInputStream().readAllBytes(), StandardCharsets.UTF_8);
        Check.same("its exit code", process.waitFor(), 0);
        return output.replace(System.lineSeparator(), "\n");
    }

    private static void delete(Path directory) throws Exception {
        try (Stream<Path> files = Files.walk(directory)) {
            for (Path file : files.sorted(Comparator.reverseOrder()).toList()) {
                Files.delete(file);
            }
        }
    }

    /** The example does not count: the text round it must tell what each call is for. */
    private static void methods() throws Exception {
        String text = EXAMPLE.matcher(page()).replaceAll("\n");
        for (Method method : AidRegister.class.getMethods()) {
            if (method.getDeclaringClass() == AidRegister.class) {
                Check.yes(method.getName() + " stands in README.md",
                        Pattern.compile("`" + method.getName() + "[`(]").matcher(text).find());
            }
        }
    }
}
