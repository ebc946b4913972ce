import java.net.URL;
import java.net.URLClassLoader;
import java.nio.file.Files;
import java.nio.file.Path;
import java.util.ArrayList;
import java.util.List;
import java.util.regex.Matcher;
import java.util.regex.Pattern;
import javax.tools.ToolProvider;

/** Compiles and runs the example of README.md; a line that ends in "// = 7 words" has to answer 7. */
public final class ReadmeTests {
    private static final Pattern ANSWER = Pattern.compile("(museum\\..*);\\s*// = ([0-9.-]*[0-9])\\b.*");

    private final StringBuilder program = new StringBuilder("public final class Example {\n"
        + "public static void run(java.util.List<Double> answers) {\n");
    private final List<String> calls = new ArrayList<>();
    private final List<Double> due = new ArrayList<>();
    private final List<Double> answers = new ArrayList<>();

    private ReadmeTests(String example) {
        for (String line : example.split("\n")) {
            Matcher m = ANSWER.matcher(line);
            Check.same("README.md marks an answer in: " + line, line.contains("// ="), m.matches());
            if (m.matches()) {
                calls.add(m.group(1));
                due.add(Double.valueOf(m.group(2)));
                program.append("answers.add((double) ").append(m.group(1)).append(");\n");
            } else {
                program.append(line).append('\n');
            }
        }
        program.append("}\n}\n");
    }

    private void run(Path folder) throws Exception {
        Path file = folder.resolve("Example.java");
        Files.writeString(file, program);
        int result = ToolProvider.getSystemJavaCompiler().run(null, null, null,
            "-cp", System.getProperty("java.class.path"), "-d", folder.toString(), file.toString());
        Check.same("the example of README.md compiles", result, 0);
        if (result == 0) {
            try (URLClassLoader loader = new URLClassLoader(new URL[] {folder.toUri().toURL()})) {
                loader.loadClass("Example").getMethod("run", List.class).invoke(null, answers);
            }
        }
    }

    private void compare() {
        Check.same("the example of README.md tells some answers, and all are given", due.isEmpty() ? -1 : due.size(), answers.size());
        for (int i = 0; i < due.size() && i < answers.size(); i++) {
            Check.same("README.md: " + calls.get(i), answers.get(i), due.get(i));
        }
    }

    private static String exampleOf(String readme) {
        int begin = readme.indexOf("```java\n") + 8;
        return readme.substring(begin, readme.indexOf("```", begin));
    }

    public static void main(String[] args) throws Exception {
        ReadmeTests example = new ReadmeTests(exampleOf(Files.readString(Path.of("README.md"))));
        Path folder = Files.createTempDirectory("readme");
        try {
            example.run(folder);
        } finally {
            Files.deleteIfExists(folder.resolve("Example.java"));
            Files.deleteIfExists(folder.resolve("Example.class"));
            Files.deleteIfExists(folder);
        }
        example.compare();
        Check.end("ReadmeTests");
    }
}
