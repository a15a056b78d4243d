import java.io.IOException;
import java.net.URL;
import java.net.URLClassLoader;
import java.nio.file.Files;
import java.nio.file.Path;
import java.util.ArrayList;
import java.util.List;
import java.util.regex.Matcher;
import java.util.regex.Pattern;
import java.util.stream.Stream;
import javax.tools.ToolProvider;

/** What README.md shows: each of its lines of Java is run, and answers what stands behind it; from the project's folder. */
public final class ReadmeTest {
    private static final Pattern BLOCK = Pattern.compile("```java\n(.*?)```", Pattern.DOTALL);
    private static final Pattern ANSWERED = Pattern.compile("(x\\.\\w+\\(.*\\)); *// (-?\\d+|throws NoSuchElementException)\\b.*");
    private static final String[] CALLS = {"feed", "build", "fault", "give", "poke", "cell", "latency", "free", "stall", "run",
        "told", "write", "count", "size"};
    /** What the example is put in: its answers are noted, as Due can't be seen from a class that is loaded later. */
    private static final String FRAME = "import java.util.ArrayList;\nimport java.util.List;\npublic final class Example {\n"
        + "interface Call { long answer(); }\n"
        + "static String ask(Call call) { try { return Long.toString(call.answer()); } catch (RuntimeException e) {"
        + " return \"throws \" + e.getClass().getSimpleName(); } }\n"
        + "METHODS\npublic static List<String> answers() {\nList<String> answers = new ArrayList<>();\nLINES\nreturn answers;\n}\n}\n";

    private static final List<String> CALLED = new ArrayList<>();
    private static final List<String> SAID = new ArrayList<>();

    private ReadmeTest() {
    }

    public static void main(String[] args) throws IOException, ReflectiveOperationException {
        String readme = Files.readString(Path.of("README.md"));
        for (String call : CALLS) {
            Due.holds("the table has " + call, readme.contains("\n| `" + call + "("));
        }
        Due.holds("it says how the tests are run", readme.contains("\n.ci/run\n"));
        tellsOfEachTest(readme);
        List<?> answers = run(exampleOf(readme));
        Due.holds("the example asks for much", SAID.size() > 15);
        Due.is("answers of the example", answers.size(), SAID.size());
        for (int i = 0; i < answers.size() && i < SAID.size(); i++) {
            Due.is(CALLED.get(i), answers.get(i).toString(), SAID.get(i));
        }
        Due.end();
    }

    private static void tellsOfEachTest(String readme) throws IOException {
        try (Stream<Path> files = Files.list(Path.of("src/test/java"))) {
            for (Path file : files.toList()) {
                String name = file.getFileName().toString().replace(".java", "");
                Due.holds("it tells of " + name, readme.contains("`" + name + "`"));
            }
        }
    }

    /** The blocks with methods as they are, the lines of the others in a row, each with a note of its answer. */
    private static String exampleOf(String readme) {
        StringBuilder methods = new StringBuilder();
        StringBuilder lines = new StringBuilder();
        Matcher block = BLOCK.matcher(readme);
        while (block.find()) {
            boolean isMethods = block.group(1).startsWith("static ");
            for (String line : block.group(1).split("\n")) {
                (isMethods ? methods : lines).append(isMethods ? line : noted(line)).append('\n');
            }
        }
        return FRAME.replace("METHODS", methods).replace("LINES", lines);
    }

    private static String noted(String line) {
        Matcher answered = ANSWERED.matcher(line);
        if (!answered.matches()) {
            Due.holds("an answer stands behind " + line, !line.startsWith("x."));
            return line;
        }
        CALLED.add(answered.group(1));
        SAID.add(answered.group(2));
        return "answers.add(ask(() -> " + answered.group(1) + "));";
    }

    private static List<?> run(String source) throws IOException, ReflectiveOperationException {
        Path folder = Files.createTempDirectory("readme");
        try {
            return compiled(source, folder) ? answersOf(folder) : List.of();
        } finally {
            delete(folder);
        }
    }

    private static boolean compiled(String source, Path folder) throws IOException {
        Path file = folder.resolve("Example.java");
        Files.writeString(file, source);
        String known = System.getProperty("java.class.path");
        int answer = ToolProvider.getSystemJavaCompiler().run(null, null, null, "-cp", known, "-d", folder.toString(), file.toString());
        Due.is("compiling the example", answer, 0);
        return answer == 0;
    }

    private static List<?> answersOf(Path folder) throws IOException, ReflectiveOperationException {
        try (URLClassLoader loader = new URLClassLoader(new URL[] {folder.toUri().toURL()})) {
            return (List<?>) loader.loadClass("Example").getMethod("answers").invoke(null);
        }
    }

    private static void delete(Path folder) throws IOException {
        try (Stream<Path> all = Files.walk(folder)) {
            for (Path one : all.sorted((a, b) -> b.compareTo(a)).toList()) {
                Files.delete(one);
            }
        }
    }
}
