import java.io.IOException;
import java.lang.reflect.Method;
import java.net.URL;
import java.net.URLClassLoader;
import java.nio.file.Files;
import java.nio.file.Path;
import java.util.List;
import java.util.regex.Matcher;
import java.util.regex.Pattern;
import javax.tools.JavaCompiler;
import javax.tools.ToolProvider;

/** The examples of README.md compile as they stand, and each line answers, or throws, what stands behind it. */
public final class ReadmeTest {
    private static final Pattern BLOCK = Pattern.compile("```java\\n(.*?)```", Pattern.DOTALL);
    private static final Pattern ANSWER = Pattern.compile("(.*);\\s*// answers (-?\\d\\w*|\"[^\"]*\")([,:] .*)?");
    private static final Pattern THROWN = Pattern.compile("(.*);\\s*// throws (\\w+)(, .*)?");
    private static final Path OUT = Path.of("build/readme");

    private static int checks = 0;
    private static int wrong = 0;

    public interface Call {
        void run();
    }

    public static void main(String[] args) throws Exception {
        String page = Files.readString(Path.of("README.md"));
        everyKindIsShown(page);
        Class<?> examples = compiled(source(page));
        for (Method example : examples.getDeclaredMethods()) {
            if (example.getName().startsWith("example")) {
                example.invoke(null);
            }
        }
        System.out.println(checks + " lines of README.md, " + wrong + " wrong");
        if (wrong != 0 || checks == 0) {
            System.exit(1);
        }
    }

    /** For the lines of the examples. */
    public static void due(String line, Object got, Object want) {
        checks++;
        if (!String.valueOf(got).equals(String.valueOf(want))) {
            tell(line, "answered " + got);
        }
    }

    /** For the lines of the examples. */
    public static void dueThrown(String line, String want, Call call) {
        checks++;
        String got = "nothing";
        try {
            call.run();
        } catch (RuntimeException e) {
            got = e.getClass().getSimpleName();
        }
        if (!got.equals(want)) {
            tell(line, "threw " + got);
        }
    }

    /** Each call of the face, and each exception that it names, has an example. */
    private static void everyKindIsShown(String page) {
        for (Method method : FigurePress.class.getDeclaredMethods()) {
            if ((method.getModifiers() & java.lang.reflect.Modifier.PUBLIC) == 0) {
                continue;
            }
            if (!page.contains("\nx." + method.getName() + "(")) {
                tell(method.getName(), "has no example");
            }
            for (Class<?> thrown : method.getExceptionTypes()) {
                if (!page.contains("// throws " + thrown.getSimpleName())) {
                    tell(thrown.getSimpleName(), "has no example");
                }
            }
        }
    }

    /** A class with a method for each example, beside those methods that the page has whole. */
    private static String source(String page) {
        StringBuilder whole = new StringBuilder("public final class Examples {\n");
        Matcher block = BLOCK.matcher(page);
        for (int i = 0; block.find(); i++) {
            String code = block.group(1);
            if (code.startsWith("static ")) {
                whole.append(code);
                continue;
            }
            whole.append("public static void example").append(i).append("() {\n");
            for (String line : code.split("\n")) {
                whole.append(checked(line)).append('\n');
            }
            whole.append("}\n");
        }
        return whole.append("}\n").toString();
    }

    private static String checked(String line) {
        String quoted = '"' + line.trim().replace("\\", "\\\\").replace("\"", "\\\"") + '"';
        Matcher answer = ANSWER.matcher(line);
        if (answer.matches()) {
            return "ReadmeTest.due(" + quoted + ", " + answer.group(1) + ", " + answer.group(2) + ");";
        }
        Matcher thrown = THROWN.matcher(line);
        if (thrown.matches()) {
            return "ReadmeTest.dueThrown(" + quoted + ", \"" + thrown.group(2) + "\", () -> " + thrown.group(1) + ");";
        }
        if (line.contains("// answers") || line.contains("// throws")) {
            tell(line.trim(), "can't be checked");
        }
        return line;
    }

    private static Class<?> compiled(String source) throws IOException, ClassNotFoundException {
        Files.createDirectories(OUT);
        Path file = OUT.resolve("Examples.java");
        Files.writeString(file, source);
        JavaCompiler compiler = ToolProvider.getSystemJavaCompiler();
        String path = System.getProperty("java.class.path");
        List<String> how = List.of("-encoding", "UTF-8", "-cp", path, "-d", OUT.toString(), file.toString());
        if (compiler == null || compiler.run(null, null, null, how.toArray(new String[0])) != 0) {
            System.out.println("the examples do not compile");
            System.exit(1);
        }
        // left open: its class is used until the test ends
        URLClassLoader loader = new URLClassLoader(new URL[] {OUT.toUri().toURL()});
        return loader.loadClass("Examples");
    }

    private static void tell(String what, String how) {
        wrong++;
        System.out.println("README.md: " + what + ": " + how);
    }
}
