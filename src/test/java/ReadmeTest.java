import java.io.ByteArrayOutputStream;
import java.io.IOException;
import java.io.PrintStream;
import java.lang.reflect.Method;
import java.lang.reflect.Modifier;
import java.net.URL;
import java.net.URLClassLoader;
import java.nio.charset.StandardCharsets;
import java.nio.file.Files;
import java.nio.file.Path;
import java.util.HashMap;
import java.util.Map;
import java.util.regex.Matcher;
import java.util.regex.Pattern;
import javax.tools.ToolProvider;

/** README.md: its tables name every call of the face once, and its example prints what the page says. */
final class ReadmeTest {
    private static final Check CHECK = new Check("ReadmeTest");

    private ReadmeTest() {
    }

    public static void main(String[] args) throws IOException, ReflectiveOperationException {
        String page = Files.readString(Path.of("README.md"));
        tables(page);
        example(page);
        tests(page);
        CHECK.end();
    }

    private static void tables(String page) {
        Map<String, Integer> told = new HashMap<>();
        Matcher row = Pattern.compile("(?m)^\\| `(\\w+)\\((.*?)\\)` \\|").matcher(page);
        while (row.find()) {
            int parameters = row.group(2).isEmpty() ? 0 : row.group(2).split(", ").length;
            CHECK.due("a second row of " + row.group(1), told.put(row.group(1), parameters) != null, false);
        }
        for (Method method : RibbonRun.class.getDeclaredMethods()) {
            if (Modifier.isPublic(method.getModifiers())) {
                Integer parameters = told.remove(method.getName());
                CHECK.due("a row of " + method.getName(), parameters != null, true);
                CHECK.due("parameters of " + method.getName(), parameters == null ? -1 : parameters,
                    method.getParameterCount());
            }
        }
        CHECK.due("rows of no call: " + told.keySet(), told.size(), 0);
    }

    private static void example(String page) throws IOException, ReflectiveOperationException {
        String program = block(page, "```java\n");
        String due = block(page.substring(page.indexOf("It prints")), "```text\n");
        Path room = Files.createTempDirectory("readme");
        Path source = Files.writeString(room.resolve("Example.java"), program);
        int failed = ToolProvider.getSystemJavaCompiler().run(null, null, null, "-Xlint:all", "-Werror",
            "-cp", System.getProperty("java.class.path"), "-d", room.toString(), source.toString());
        CHECK.due("the example doesn't compile", failed, 0);
        if (failed == 0) {
            String printed = printed(room);
            CHECK.due("what the example prints:\n" + printed, printed.equals(due), true);
        }
        Files.deleteIfExists(room.resolve("Example.class"));
        Files.delete(source);
        Files.delete(room);
    }

    private static String printed(Path room) throws IOException, ReflectiveOperationException {
        PrintStream out = System.out;
        ByteArrayOutputStream bytes = new ByteArrayOutputStream();
        try (URLClassLoader loader = new URLClassLoader(new URL[] {room.toUri().toURL()})) {
            System.setOut(new PrintStream(bytes, true, StandardCharsets.UTF_8));
            loader.loadClass("Example").getMethod("main", String[].class).invoke(null, (Object) new String[0]);
        } finally {
            System.setOut(out);
        }
        return bytes.toString(StandardCharsets.UTF_8).replace(System.lineSeparator(), "\n");
    }

    private static String block(String page, String begin) {
        int from = page.indexOf(begin);
        int to = from < 0 ? -1 : page.indexOf("```", from + begin.length());
        return to < 0 ? "" : page.substring(from + begin.length(), to);
    }

    /** Each test of the project is told with its name. */
    private static void tests(String page) throws IOException {
        try (var files = Files.list(Path.of("src/test/java"))) {
            files.map(file -> file.getFileName().toString()).filter(name -> name.endsWith("Test.java")).forEach(
                name -> CHECK.due("tells of " + name, page.contains("`" + name.replace(".java", "") + "`"), true));
        }
    }
}
