import java.io.ByteArrayOutputStream;
import java.io.IOException;
import java.io.PrintStream;
import java.lang.reflect.Method;
import java.net.URL;
import java.net.URLClassLoader;
import java.nio.charset.StandardCharsets;
import java.nio.file.Files;
import java.nio.file.Path;
import java.util.ArrayList;
import java.util.List;
import java.util.regex.Matcher;
import java.util.regex.Pattern;
import java.util.stream.Stream;
import javax.tools.JavaCompiler;
import javax.tools.ToolProvider;

/** What README.md says can be done as it says: its example, its list of calls, its list of tests. */
public final class ReadmeTest {
    private static final Path README = Path.of("README.md");
    private static final Path TESTS = Path.of("src/test/java");

    /** Behind a print, or alone on a line: what is printed. */
    private static final Pattern PRINTED = Pattern.compile("(?:println\\(.*\\);\\s*|^ {12}\\s*)// (.*)$");
    private static final Pattern CALL = Pattern.compile("`?\\b([a-z]+)\\(([a-z, ]*)\\)`?");

    private static int wrong = 0;

    private static void demand(boolean holds, String what) {
        if (!holds) {
            wrong++;
            System.out.println(what);
        }
    }

    public static void main(String[] args) throws Exception {
        String text = Files.readString(README);
        lookAtExample(text);
        lookAtCalls(text);
        lookAtTests(text);
        System.out.println(wrong == 0 ? "README.md is as the class is" : wrong + " things in README.md do not hold");
        if (wrong != 0) {
            System.exit(1);
        }
    }

    // ---- the example

    private static void lookAtExample(String text) throws Exception {
        Matcher block = Pattern.compile("(?s)```java\n(public final class Example .*?)```").matcher(text);
        if (!block.find()) {
            demand(false, "README.md has no whole example");
            return;
        }
        List<String> said = new ArrayList<>();
        for (String line : block.group(1).split("\n")) {
            Matcher printed = PRINTED.matcher(line);
            if (printed.find()) {
                said.add(printed.group(1));
            }
        }
        demand(said.size() > 20, "the example says little: " + said);
        List<String> printed = run(block.group(1));
        for (int i = 0; i < Math.max(said.size(), printed.size()); i++) {
            String want = i < said.size() ? said.get(i) : "nothing";
            String got = i < printed.size() ? printed.get(i) : "nothing";
            demand(got.equals(want), "print " + i + " of the example is " + got + ", README.md says " + want);
        }
        for (Method method : callsOfClass()) {
            demand(block.group(1).contains("x." + method.getName() + "(") || isLeftOut(method),
                    "the example does not use " + method.getName());
        }
    }

    /** Calls that are so like another one that the example does without them. */
    private static boolean isLeftOut(Method method) {
        return List.of("drop", "open", "came", "weigh").contains(method.getName());
    }

    private static List<String> run(String source) throws Exception {
        JavaCompiler compiler = ToolProvider.getSystemJavaCompiler();
        Path room = Files.createTempDirectory("readme");
        Path file = Files.writeString(room.resolve("Example.java"), source);
        int failed = compiler.run(null, System.out, System.out, "-d", room.toString(), "-cp",
                System.getProperty("java.class.path"), file.toString());
        demand(failed == 0, "the example is not compiled");
        PrintStream before = System.out;
        ByteArrayOutputStream bytes = new ByteArrayOutputStream();
        URL[] places = {room.toUri().toURL()};
        try (URLClassLoader loader = new URLClassLoader(places)) {
            System.setOut(new PrintStream(bytes, true, StandardCharsets.UTF_8));
            loader.loadClass("Example").getMethod("main", String[].class).invoke(null, (Object) new String[0]);
        } finally {
            System.setOut(before);
            clear(room);
        }
        return bytes.toString(StandardCharsets.UTF_8).lines().toList();
    }

    private static void clear(Path room) throws IOException {
        try (Stream<Path> files = Files.list(room)) {
            for (Path file : files.toList()) {
                Files.delete(file);
            }
        }
        Files.delete(room);
    }

    // ---- the lists

    private static List<Method> callsOfClass() {
        List<Method> calls = new ArrayList<>();
        for (Method method : ToldChances.class.getMethods()) {
            if (method.getDeclaringClass() == ToldChances.class) {
                calls.add(method);
            }
        }
        return calls;
    }

    private static void lookAtCalls(String text) {
        List<String> named = new ArrayList<>();
        for (String line : text.split("\n")) {
            if (line.startsWith("| `")) {
                Matcher call = CALL.matcher(line.substring(0, line.indexOf('|', 1)));
                while (call.find()) {
                    int numbers = call.group(2).isEmpty() ? 0 : call.group(2).split(",").length;
                    named.add(call.group(1) + " " + numbers);
                }
            }
        }
        for (Method method : callsOfClass()) {
            demand(named.remove(method.getName() + " " + method.getParameterCount()),
                    "README.md does not name the call " + method);
        }
        demand(named.isEmpty(), "README.md names what is no call: " + named);
    }

    private static void lookAtTests(String text) throws IOException {
        try (Stream<Path> files = Files.list(TESTS)) {
            for (Path file : files.toList()) {
                String name = file.getFileName().toString().replace(".java", "");
                demand(text.contains("- `" + name + "`"), "README.md does not name the test " + name);
            }
        }
        demand(text.contains(".ci/run"), "README.md does not say how to run the tests");
    }
}
