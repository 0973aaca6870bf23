import java.io.IOException;
import java.lang.reflect.InvocationTargetException;
import java.lang.reflect.Method;
import java.lang.reflect.Modifier;
import java.net.URI;
import java.net.URL;
import java.net.URLClassLoader;
import java.nio.file.Files;
import java.nio.file.Path;
import java.util.ArrayList;
import java.util.Comparator;
import java.util.List;
import java.util.regex.Matcher;
import java.util.regex.Pattern;
import java.util.stream.Stream;
import javax.tools.JavaCompiler;
import javax.tools.JavaFileObject;
import javax.tools.SimpleJavaFileObject;
import javax.tools.ToolProvider;

/** README.md: its Java is compiled and run, each answer behind // asked for; all calls and tests are told. */
public final class ReadmeTests {
    private static final Pattern BLOCK = Pattern.compile("(?s)```java\n(.*?)```");
    private static final Pattern ANSWERED = Pattern.compile("(x\\..*);\\s*// (-?\\d+|true|false):.*");
    private static int wrong = 0;
    private static int asked = 0;

    public static void main(String[] args) throws Exception {
        String page = Files.readString(Path.of("README.md"));
        run(page);
        allIsTold(page);
        check(asked > 20, "only " + asked + " answers of README.md were seen");
        System.out.println("ReadmeTests: " + asked + " answers, " + (wrong == 0 ? "all as due" : wrong + " wrong"));
        if (wrong != 0) {
            System.exit(1);
        }
    }

    private static void check(boolean holds, String what) {
        if (!holds) {
            wrong++;
            System.out.println(what);
        }
    }

    /** What the page's code calls, once it is made a class. */
    public static void due(String call, Object got, Object want) {
        asked++;
        check(got.equals(want), "README.md: " + call + " answered " + got + ", the page says " + want);
    }

    /** Methods as they are, all else as one method's lines, each answer asked for. */
    private static String source(String page) {
        StringBuilder members = new StringBuilder();
        StringBuilder lines = new StringBuilder();
        Matcher block = BLOCK.matcher(page);
        while (block.find()) {
            if (block.group(1).startsWith("static ")) {
                members.append(block.group(1));
                continue;
            }
            for (String line : block.group(1).split("\n")) {
                Matcher m = ANSWERED.matcher(line);
                String call = m.matches() ? m.group(1) : "";
                lines.append(call.isEmpty() ? line
                    : "ReadmeTests.due(\"" + call.replace("\"", "\\\"") + "\", " + call + ", " + m.group(2) + ");");
                lines.append('\n');
            }
        }
        return "public class Page {\n" + members + "public static void run() {\n" + lines + "}\n}\n";
    }

    private static void run(String page) throws Exception {
        String source = source(page);
        Path out = Files.createTempDirectory("readme");
        try {
            JavaCompiler compiler = ToolProvider.getSystemJavaCompiler();
            JavaFileObject file = new SimpleJavaFileObject(URI.create("string:///Page.java"), JavaFileObject.Kind.SOURCE) {
                @Override
                public CharSequence getCharContent(boolean ignored) {
                    return source;
                }
            };
            List<String> options = List.of("-d", out.toString(), "-cp", System.getProperty("java.class.path"));
            boolean compiled = compiler.getTask(null, null, null, options, null, List.of(file)).call();
            check(compiled, "the code of README.md does not compile");
            if (compiled) {
                call(out);
            }
        } finally {
            remove(out);
        }
    }

    private static void call(Path out) throws Exception {
        try (URLClassLoader loader = new URLClassLoader(new URL[] {out.toUri().toURL()})) {
            loader.loadClass("Page").getMethod("run").invoke(null);
        } catch (InvocationTargetException e) {
            check(false, "the code of README.md throws " + e.getCause());
        }
    }

    private static void remove(Path folder) throws IOException {
        try (Stream<Path> paths = Files.walk(folder)) {
            for (Path path : paths.sorted(Comparator.reverseOrder()).toList()) {
                Files.delete(path);
            }
        }
    }

    private static void allIsTold(String page) throws IOException {
        for (Method method : SleepersPay.class.getDeclaredMethods()) {
            boolean told = page.contains("`" + method.getName() + "`");
            check(told || !Modifier.isPublic(method.getModifiers()), "README.md does not tell of " + method.getName());
        }
        List<String> tests = new ArrayList<>();
        try (Stream<Path> files = Files.list(Path.of("src/test/java"))) {
            files.map(f -> f.getFileName().toString()).filter(f -> f.endsWith("Tests.java")).forEach(tests::add);
        }
        for (String test : tests) {
            String row = "| " + test.replace(".java", "") + " |";
            check(page.contains(row), "README.md does not tell of " + test);
        }
    }
}
