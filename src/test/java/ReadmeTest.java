import java.io.IOException;
import java.lang.reflect.Method;
import java.lang.reflect.Modifier;
import java.net.URL;
import java.net.URLClassLoader;
import java.nio.charset.StandardCharsets;
import java.nio.file.DirectoryStream;
import java.nio.file.Files;
import java.nio.file.Path;
import java.nio.file.Paths;
import java.util.ArrayList;
import java.util.List;
import java.util.regex.Matcher;
import java.util.regex.Pattern;
import javax.tools.JavaCompiler;
import javax.tools.ToolProvider;

/**
 * The examples of README.md answer as it says. Its blocks of Java become one class as they stand: those that begin with
 * static are methods, the others follow one another in one method. A line "call; // answer: why" is looked at.
 */
public final class ReadmeTest {
    private static final Pattern BLOCK = Pattern.compile("(?ms)^```java\n(.*?)^```$");
    private static final Pattern ANSWERED = Pattern.compile("(x\\.\\w+\\(.*\\)); // (-?\\d+|true|false): .+");
    private static final String NAME = "ReadmeExamples";
    private final List<String> calls = new ArrayList<>();
    private final List<String> due = new ArrayList<>();

    private ReadmeTest() {
    }

    private String sourceOf(String readme) {
        StringBuilder methods = new StringBuilder();
        StringBuilder lines = new StringBuilder();
        Matcher block = BLOCK.matcher(readme);
        while (block.find()) {
            if (block.group(1).startsWith("static ")) {
                methods.append(block.group(1));
            } else {
                addLines(block.group(1), lines);
            }
        }
        return "public class " + NAME + " {\n" + methods + "public static java.util.List<String> answers() {\n"
                + "java.util.List<String> got = new java.util.ArrayList<>();\n" + lines + "return got;\n}\n}\n";
    }

    private void addLines(String block, StringBuilder lines) {
        for (String line : block.split("\n")) {
            Matcher answered = ANSWERED.matcher(line);
            if (answered.matches()) {
                calls.add(answered.group(1));
                due.add(answered.group(2));
                lines.append("got.add(String.valueOf(").append(answered.group(1)).append("));\n");
            } else {
                Check.due("README.md tells the answer of " + line, line.startsWith("x."), false);
                lines.append(line).append("\n");
            }
        }
    }

    private static Object answersOf(String source) throws IOException, ReflectiveOperationException {
        Path dir = Files.createTempDirectory("readme");
        Path file = dir.resolve(NAME + ".java");
        try {
            Files.write(file, source.getBytes(StandardCharsets.UTF_8));
            JavaCompiler javac = ToolProvider.getSystemJavaCompiler();
            String classes = System.getProperty("java.class.path");
            int code = javac.run(null, null, null, "-cp", classes, "-d", dir.toString(), file.toString());
            Check.due("the examples of README.md compile", code, 0);
            try (URLClassLoader loader = new URLClassLoader(new URL[] {dir.toUri().toURL()})) {
                return loader.loadClass(NAME).getMethod("answers").invoke(null);
            }
        } finally {
            Files.deleteIfExists(dir.resolve(NAME + ".class"));
            Files.deleteIfExists(file);
            Files.deleteIfExists(dir);
        }
    }

    private void examples(String readme) throws IOException, ReflectiveOperationException {
        List<?> got = (List<?>) answersOf(sourceOf(readme));
        Check.due("README.md has examples", calls.size() > 20, true);
        Check.due("as many answers", got.size(), due.size());
        for (int i = 0; i < due.size(); i++) {
            String what = "README.md: " + calls.get(i) + " is told to answer " + due.get(i) + ", answers " + got.get(i);
            Check.due(what, got.get(i).equals(due.get(i)), true);
        }
    }

    /** Each call of the class and each file of the tests has its place in README.md. */
    private static void namesAll(String readme) throws IOException {
        for (Method m : DistantVoice.class.getDeclaredMethods()) {
            boolean hidden = !Modifier.isPublic(m.getModifiers());
            Check.due("README.md names " + m.getName(), hidden || readme.contains("`" + m.getName() + "("), true);
        }
        try (DirectoryStream<Path> files = Files.newDirectoryStream(Paths.get("src/test/java"), "*.java")) {
            for (Path file : files) {
                String name = file.getFileName().toString().replace(".java", "");
                Check.due("README.md names " + name, readme.contains("`" + name + "`"), true);
            }
        }
        Check.due("README.md tells how to run the tests", readme.contains("\n.ci/run\n"), true);
        Check.due("README.md tells for how many calls an object is used", readme.contains("at most 512 calls"), true);
    }

    public static void main(String[] args) throws IOException, ReflectiveOperationException {
        String readme = new String(Files.readAllBytes(Paths.get("README.md")), StandardCharsets.UTF_8);
        new ReadmeTest().examples(readme);
        namesAll(readme);
        Check.finish();
    }
}
