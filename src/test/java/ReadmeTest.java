import java.io.IOException;
import java.lang.reflect.InvocationTargetException;
import java.lang.reflect.Method;
import java.lang.reflect.Modifier;
import java.net.URL;
import java.net.URLClassLoader;
import java.nio.charset.StandardCharsets;
import java.nio.file.Files;
import java.nio.file.Path;
import java.util.List;
import java.util.regex.Matcher;
import java.util.regex.Pattern;
import java.util.stream.Stream;
import javax.tools.JavaCompiler;
import javax.tools.ToolProvider;

/**
 * What README.md shows of the class's use compiles, and each call answers what stands behind it.
 * A block of code is an example of its own, or, if it begins with "static", methods for them all.
 */
public final class ReadmeTest {
    private static final Check check = new Check();
    private static final Pattern BLOCK = Pattern.compile("(?ms)^```java\n(.*?)^```$");
    private static final Pattern LINE = Pattern.compile("\\s*(?:(int|float) (\\w+) = )?(.*?);\\s*(?://\\s*(.*))?");
    private static final Pattern ANSWER = Pattern.compile("(throws \\w+|-?\\d+(?:\\.\\d+)?)(?:: .*)?");

    private final StringBuilder methods = new StringBuilder();
    private final StringBuilder bodies = new StringBuilder();
    private int examples;

    // ---- called by what is made of the examples

    public static void due(String line, double got, double want) {
        check.due(line, got, want);
    }

    public static void thrown(String line, RuntimeException got, String want) {
        check.due(line, "throws " + (got == null ? "nothing" : got.getClass().getSimpleName()), want);
    }

    // ---- from README.md to a class

    private void take(String block) {
        if (block.startsWith("static ")) {
            methods.append(block);
            return;
        }
        examples++;
        bodies.append("static void example").append(examples).append("() {\n");
        for (String line : block.split("\n")) if (!line.isBlank()) bodies.append(statement(line)).append('\n');
        bodies.append("}\n");
    }

    /** A line without a call of the log's is taken as it is; one with a call must tell its answer. */
    private String statement(String line) {
        if (!line.replaceAll("//.*", "").contains("log.")) return line;
        Matcher parts = LINE.matcher(line);
        check.due(line + " is one statement", parts.matches(), true);
        if (!parts.matches()) return line;
        String comment = parts.group(4) == null ? "" : parts.group(4);
        Matcher answer = ANSWER.matcher(comment);
        check.due(line + " tells an answer", answer.matches(), true);
        return answer.matches() ? looked(line, parts, answer.group(1)) : line;
    }

    private static String looked(String line, Matcher parts, String want) {
        String quoted = "\"" + line.trim().replace("\\", "\\\\").replace("\"", "\\\"") + "\"";
        String call = parts.group(3);
        if (want.startsWith("throws ")) {
            return "{ RuntimeException got = null; try { " + call + "; } catch (RuntimeException e) { got = e; }"
                + " ReadmeTest.thrown(" + quoted + ", got, \"" + want + "\"); }";
        }
        String number = want.contains(".") ? want + "f" : want;
        if (parts.group(2) == null) return "ReadmeTest.due(" + quoted + ", " + call + ", " + number + ");";
        String name = parts.group(2);
        return parts.group(1) + " " + name + " = " + call + "; ReadmeTest.due(" + quoted + ", " + name + ", " + number + ");";
    }

    private String source() {
        StringBuilder all = new StringBuilder("public final class ReadmeExamples {\n");
        all.append(methods).append(bodies).append("public static void all() {\n");
        for (int n = 1; n <= examples; n++) all.append("example").append(n).append("();\n");
        return all.append("}\n}\n").toString();
    }

    // ---- the class is compiled and run

    private static boolean compiles(Path directory, String source) throws IOException {
        Path file = directory.resolve("ReadmeExamples.java");
        Files.writeString(file, source, StandardCharsets.UTF_8);
        JavaCompiler compiler = ToolProvider.getSystemJavaCompiler();
        String classes = System.getProperty("java.class.path");
        return compiler != null && compiler.run(null, null, null, "--release", "17", "-Xlint:all", "-Werror",
            "-cp", classes, "-d", directory.toString(), file.toString()) == 0;
    }

    private static void runAll(Path directory) throws Exception {
        try (URLClassLoader loader = new URLClassLoader(new URL[] {directory.toUri().toURL()})) {
            loader.loadClass("ReadmeExamples").getMethod("all").invoke(null);
        } catch (InvocationTargetException e) {
            check.due("the examples", e.getCause(), "end");
        }
    }

    private static void delete(Path directory) throws IOException {
        try (Stream<Path> files = Files.list(directory)) {
            for (Path file : files.toList()) Files.delete(file);
        }
        Files.delete(directory);
    }

    // ---- what README.md must show

    private static void showsTheFace(String code) {
        for (Method m : SharedLog.class.getDeclaredMethods()) {
            if (!Modifier.isPublic(m.getModifiers())) continue;
            check.due(m.getName() + " is called", code.contains("log." + m.getName() + "("), true);
            for (Class<?> e : m.getExceptionTypes()) {
                check.due(e.getSimpleName() + " is shown", code.contains("// throws " + e.getSimpleName()), true);
            }
        }
        check.due("NONE is used", code.contains("SharedLog.NONE"), true);
    }

    private static void namesTheTests(String readme) throws IOException {
        try (Stream<Path> files = Files.list(Path.of("src/test/java"))) {
            List<String> names = files.map(f -> f.getFileName().toString().replace(".java", "")).filter(n -> n.endsWith("Test")).toList();
            for (String name : names) check.due(name + " is named", readme.contains("`" + name + "`"), true);
        }
    }

    public static void main(String[] args) throws Exception {
        check.part("README.md");
        String readme = Files.readString(Path.of("README.md"), StandardCharsets.UTF_8);
        ReadmeTest test = new ReadmeTest();
        StringBuilder code = new StringBuilder();
        Matcher blocks = BLOCK.matcher(readme);
        while (blocks.find()) {
            test.take(blocks.group(1));
            code.append(blocks.group(1));
        }
        showsTheFace(code.toString());
        namesTheTests(readme);
        Path directory = Files.createTempDirectory("readme");
        boolean compiled = compiles(directory, test.source());
        check.due("the examples compile", compiled, true);
        if (compiled) runAll(directory);
        delete(directory);
        check.end();
    }
}
