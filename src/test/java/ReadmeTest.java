import java.io.IOException;
import java.lang.reflect.Method;
import java.net.URL;
import java.net.URLClassLoader;
import java.nio.file.Files;
import java.nio.file.Path;
import java.util.ArrayList;
import java.util.List;
import java.util.regex.Matcher;
import java.util.regex.Pattern;
import java.util.stream.Collectors;
import java.util.stream.Stream;
import javax.tools.ToolProvider;

/** README.md: each of its examples compiles and answers what stands behind it, and its table has every test. */
public final class ReadmeTest {
    private static final Path README = Path.of("README.md");
    private static final Path TESTS = Path.of("src/test/java");
    private static final Pattern BLOCK = Pattern.compile("```java\n(.*?)```", Pattern.DOTALL);
    private static final Pattern ANSWER = Pattern.compile("(?:int|boolean|String) (\\w+) = .*; *// = ([^ ]*?),?(?: .*)?");

    private final List<String> wants = new ArrayList<>();
    private int examples = 0;

    public static void main(String[] args) throws IOException, ReflectiveOperationException {
        String readme = Files.readString(README);
        new ReadmeTest().examples(readme);
        allTestsTold(readme);
        Check.end();
    }

    private void examples(String readme) throws IOException, ReflectiveOperationException {
        Path made = Files.createTempDirectory("readme");
        try {
            Path source = made.resolve("Examples.java");
            Files.writeString(source, program(readme));
            Check.same("examples", 3, examples);
            int refused = ToolProvider.getSystemJavaCompiler().run(null, null, null,
                    "-cp", System.getProperty("java.class.path"), "-d", made.toString(), source.toString());
            Check.same("javac of the examples", 0, refused);
            if (refused == 0) {
                lookAtAnswers(made);
            }
        } finally {
            remove(made);
        }
    }

    private void lookAtAnswers(Path made) throws IOException, ReflectiveOperationException {
        List<?> gots;
        try (URLClassLoader loader = new URLClassLoader(new URL[] {made.toUri().toURL()})) {
            Method all = loader.loadClass("Examples").getMethod("all");
            gots = (List<?>) all.invoke(null);
        }
        Check.same("answers told", true, wants.size() > 20);
        for (int k = 0; k < wants.size(); k++) {
            Check.same("answer of an example", wants.get(k), gots.get(k));
        }
    }

    /** A block with static members is taken as it is, any other becomes a method that also gathers its answers. */
    private String program(String readme) {
        StringBuilder members = new StringBuilder("static java.util.List<String> gots = new java.util.ArrayList<>();\n");
        StringBuilder calls = new StringBuilder();
        Matcher block = BLOCK.matcher(readme);
        while (block.find()) {
            String code = block.group(1);
            if (code.startsWith("static")) {
                members.append(code);
            } else {
                members.append("static void example").append(examples).append("() {\n").append(gathering(code)).append("}\n");
                calls.append("example").append(examples).append("();\n");
                examples++;
            }
        }
        return "public class Examples {\n" + members + "public static java.util.List<String> all() {\n" + calls + "return gots;\n}\n}\n";
    }

    private String gathering(String code) {
        StringBuilder all = new StringBuilder();
        for (String line : code.split("\n")) {
            all.append(line).append('\n');
            Matcher answer = ANSWER.matcher(line);
            if (answer.matches()) {
                all.append("gots.add(\"").append(answer.group(1)).append(" \" + ").append(answer.group(1)).append(");\n");
                wants.add(answer.group(1) + " " + answer.group(2));
            }
            Check.same("an answer is told in " + line, line.contains("// = "), answer.matches());
        }
        return all.toString();
    }

    private static void allTestsTold(String readme) throws IOException {
        try (Stream<Path> files = Files.list(TESTS)) {
            for (Path file : files.collect(Collectors.toList())) {
                String name = file.getFileName().toString().replace(".java", "");
                if (name.endsWith("Test")) {
                    Check.same("README.md tells of " + name, true, readme.contains("| " + name + " |"));
                }
            }
        }
    }

    private static void remove(Path made) throws IOException {
        try (Stream<Path> files = Files.list(made)) {
            for (Path file : files.collect(Collectors.toList())) {
                Files.delete(file);
            }
        }
        Files.delete(made);
    }
}
