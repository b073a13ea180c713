import java.io.IOException;
import java.nio.file.Files;
import java.nio.file.Path;
import java.util.ArrayList;
import java.util.List;
import java.util.regex.Matcher;
import java.util.regex.Pattern;
import javax.tools.ToolProvider;

/** The example of README.md is compiled as it stands, and answers what its comments say. */
public final class ReadmeTest {
    private static final Pattern ANSWER = Pattern.compile("int (\\w+) = .*; +// (-?\\d+): .*");
    private static final int LEAST_ANSWERS = 10;

    private static List<String> example() throws IOException {
        List<String> lines = new ArrayList<>();
        boolean inside = false;
        for (String line : Files.readAllLines(Path.of("README.md"))) {
            if (line.startsWith("```")) {
                inside = line.equals("```java");
            } else if (inside) {
                lines.add(line);
            }
        }
        return lines;
    }

    private static String program(List<String> lines) {
        StringBuilder text = new StringBuilder("public final class Example { public static int run() { int wrong = 0;\n");
        int answers = 0;
        for (String line : lines) {
            text.append(line).append('\n');
            Matcher matcher = ANSWER.matcher(line);
            if (matcher.matches()) {
                answers++;
                String name = matcher.group(1);
                text.append("if (").append(name).append(" != ").append(matcher.group(2)).append(") { wrong++; System.out.println(\"")
                    .append(name).append(" is \" + ").append(name).append("); }\n");
            }
        }
        if (answers < LEAST_ANSWERS) {
            throw new AssertionError("README.md tells only " + answers + " answers");
        }
        return text.append("return wrong; } }\n").toString();
    }

    private static int answersNotDue(Path folder) throws IOException, ReflectiveOperationException {
        Path file = folder.resolve("Example.java");
        Files.writeString(file, program(example()));
        String classes = System.getProperty("java.class.path");
        int failed = ToolProvider.getSystemJavaCompiler().run(null, null, null, "-cp", classes, "-d", folder.toString(), file.toString());
        if (failed != 0) {
            return failed;
        }
        try (java.net.URLClassLoader loader = new java.net.URLClassLoader(new java.net.URL[] {folder.toUri().toURL()})) {
            return (int) loader.loadClass("Example").getMethod("run").invoke(null);
        }
    }

    private static void delete(Path folder) throws IOException {
        for (String name : new String[] {"Example.java", "Example.class"}) {
            Files.deleteIfExists(folder.resolve(name));
        }
        Files.delete(folder);
    }

    public static void main(String[] args) throws IOException, ReflectiveOperationException {
        Path folder = Files.createTempDirectory("readme");
        int wrong;
        try {
            wrong = answersNotDue(folder);
        } finally {
            delete(folder);
        }
        System.out.println(wrong == 0 ? "the example is as due" : wrong + " answers of the example are not as due");
        if (wrong != 0) {
            System.exit(1);
        }
    }
}
