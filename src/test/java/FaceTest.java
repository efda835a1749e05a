import java.io.IOException;
import java.lang.reflect.Constructor;
import java.lang.reflect.Field;
import java.lang.reflect.Method;
import java.lang.reflect.Modifier;
import java.nio.charset.StandardCharsets;
import java.nio.file.Files;
import java.nio.file.Path;
import java.util.ArrayList;
import java.util.Arrays;
import java.util.List;
import java.util.TreeSet;
import java.util.regex.Matcher;
import java.util.regex.Pattern;

/** The face of the document, and the rules of LANGUAGE.md that can be seen without running the class. */
public final class FaceTest {
    private static final Check check = new Check();

    /** The face as the document's first block of code tells it, without the names of parameters. */
    private static TreeSet<String> documented() throws IOException {
        String document = Files.readString(Path.of("../shared/DOC.md"), StandardCharsets.UTF_8);
        TreeSet<String> shapes = new TreeSet<>();
        Matcher method = Pattern.compile("public (int|float) (\\w+)\\(([^)]*)\\)( throws [^;]*)?;").matcher(document);
        while (method.find()) {
            String parameters = method.group(3).replaceAll("\\w+ \\w+", "int");
            check.due("parameters of " + method.group(2), method.group(3).matches("(int \\w+(, )?)*"), true);
            shapes.add(method.group(1) + " " + method.group(2) + "(" + parameters + ")" + (method.group(4) == null ? "" : method.group(4)));
        }
        return shapes;
    }

    private static String shape(Method m) {
        List<String> parameters = new ArrayList<>();
        for (Class<?> p : m.getParameterTypes()) parameters.add(p.getName());
        List<String> exceptions = new ArrayList<>();
        for (Class<?> e : m.getExceptionTypes()) exceptions.add(e.getSimpleName());
        String head = m.getReturnType() + " " + m.getName() + "(" + String.join(", ", parameters) + ")";
        return exceptions.isEmpty() ? head : head + " throws " + String.join(", ", exceptions);
    }

    private static void face() throws IOException {
        check.part("rule 1");
        check.due("modifiers", SharedLog.class.getModifiers(), Modifier.PUBLIC | Modifier.FINAL);
        check.due("NONE", SharedLog.NONE, -1);
        List<String> open = new ArrayList<>();
        TreeSet<String> names = new TreeSet<>();
        for (Method m : SharedLog.class.getDeclaredMethods()) {
            if (Modifier.isPrivate(m.getModifiers())) continue;
            check.due("modifiers of " + m.getName(), m.getModifiers(), Modifier.PUBLIC);
            open.add(shape(m));
            names.add(m.getName());
        }
        check.due("methods", new TreeSet<>(open), documented());
        check.due("number of methods", open.size(), 39);
        for (Field f : SharedLog.class.getDeclaredFields()) {
            boolean known = f.getName().equals("NONE") || Modifier.isPrivate(f.getModifiers());
            check.due("field " + f.getName() + " is of the face or private", known, true);
            if (Modifier.isStatic(f.getModifiers())) check.due(f.getName() + " is final", Modifier.isFinal(f.getModifiers()), true);
        }
        Constructor<?>[] made = SharedLog.class.getDeclaredConstructors();
        check.due("constructors", made.length, 1);
        check.due("its parameters", made[0].getParameterCount(), 0);
        inside(names);
    }

    private static void inside(TreeSet<String> names) {
        check.part("rules 1, 2 and 11");
        Class<?>[] classes = SharedLog.class.getDeclaredClasses();
        check.due("at most twelve classes", classes.length + 1 <= 12, true);
        List<Class<?>> all = new ArrayList<>(Arrays.asList(classes));
        all.add(SharedLog.class);
        for (Class<?> c : all) {
            boolean inner = c != SharedLog.class;
            if (inner) check.due(c.getName() + " is static", Modifier.isStatic(c.getModifiers()), true);
            int fields = 0;
            for (Field f : c.getDeclaredFields()) if (!Modifier.isStatic(f.getModifiers())) fields++;
            check.due("at most twenty fields in " + c.getName(), fields <= 20, true);
            for (Method m : c.getDeclaredMethods()) {
                check.due("at most seven parameters of " + m.getName(), m.getParameterCount() <= 7, true);
                boolean own = inner || Modifier.isPrivate(m.getModifiers());
                if (own) check.due(m.getName() + " has a name of the face", names.contains(m.getName()), false);
            }
        }
    }

    /** Comments and texts are no code. */
    private static String code(String source) {
        return source.replaceAll("(?s)/\\*.*?\\*/", "").replaceAll("//[^\n]*", "").replaceAll("\"[^\"\n]*\"", "\"\"");
    }

    private static void source() throws IOException {
        check.part("source");
        String source = Files.readString(Path.of("src/main/java/SharedLog.java"), StandardCharsets.US_ASCII);
        String code = code(source);
        String[] never = {"\\btry\\b", "\\bcatch\\b", "\\bfinally\\b", "->", "::", "\\bsynchronized\\b", "\\bassert\\b", "\\bpackage\\b",
            "\\bthrow e\\b", "\\bsuper\\b", "\\bequals\\b", "\\bhashCode\\b", "\\btoString\\b", "Exact\\b", "\\bwhile\\b", "\\bSystem\\b",
            "\\bstatic \\{", "\"\"\\s*\\+", "\\+\\s*\"\"", "\\bprotected\\b", "\\bvar\\b"};
        for (String pattern : never) check.due(pattern + " is found", Pattern.compile(pattern).matcher(code).find(), false);
        Matcher imports = Pattern.compile("import ([\\w.]+);").matcher(code);
        while (imports.find()) check.due("import", imports.group(1), "java.util.NoSuchElementException");
        Matcher thrown = Pattern.compile("throw new (\\w+)\\(").matcher(code);
        List<String> names = Arrays.asList("IllegalStateException", "IllegalArgumentException", "IndexOutOfBoundsException", "NoSuchElementException");
        while (thrown.find()) check.due(thrown.group(1) + " may be thrown", names.contains(thrown.group(1)), true);
        // no call makes an object: what a run needs is made with the log, or is thrown
        Matcher made = Pattern.compile("(?m)^(.*)\\bnew\\b").matcher(code);
        while (made.find()) {
            boolean allowed = made.group(1).matches("\\s*(throw |private final \\S+ \\w+ = |cells = )");
            check.due("a new object at " + made.group(1).trim() + " is a part or is thrown", allowed, true);
        }
        methodLengths(code);
    }

    private static void methodLengths(String code) {
        int start = -1;
        String[] lines = code.split("\n");
        String indent = "";
        for (int i = 0; i < lines.length; i++) {
            Matcher head = Pattern.compile("^( {4}| {8})(?!.*\\b(class|new)\\b)\\S.*\\{$").matcher(lines[i]);
            if (start < 0 && head.find() && lines[i].contains(")")) {
                start = i;
                indent = head.group(1);
            } else if (start >= 0 && lines[i].equals(indent + "}")) {
                check.due("lines of the method at " + lines[start].trim() + " are at most sixty", i - start < 60, true);
                start = -1;
            }
        }
    }

    public static void main(String[] args) throws IOException {
        face();
        source();
        check.end();
    }
}
