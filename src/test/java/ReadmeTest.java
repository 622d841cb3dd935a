import java.io.ByteArrayOutputStream;
import java.io.IOException;
import java.io.PrintStream;
import java.lang.reflect.Method;
import java.lang.reflect.Modifier;
import java.net.URL;
import java.net.URLClassLoader;
import java.nio.file.Files;
import java.nio.file.Path;
import java.util.ArrayList;
import java.util.Arrays;
import java.util.List;
import java.util.regex.Matcher;
import java.util.regex.Pattern;
import java.util.stream.Stream;
import javax.tools.JavaCompiler;
import javax.tools.ToolProvider;

/** "README.md says how to use the class and how to run its tests": its example runs and answers as it says. */
public final class ReadmeTest {
    private static int wrong = 0;

    public static void main(String[] args) throws Exception {
        String page = Files.readString(Path.of("README.md"));
        example(block(page, "java"));
        calls(page);
        classes(page);
        tests(page);
        System.out.println(wrong == 0 ? "README.md holds" : wrong + " things in README.md do not hold");
        if (wrong != 0) System.exit(1);
    }

    private static void say(boolean fine, String what) {
        if (!fine) {
            wrong++;
            System.out.println("README.md: " + what);
        }
    }

    private static String block(String page, String sort) {
        Matcher m = Pattern.compile("```" + sort + "\n(.*?)```", Pattern.DOTALL).matcher(page);
        return m.find() ? m.group(1) : "";
    }

    /** Each line that prints is followed by what it prints, then a colon and why. */
    private static void example(String source) throws Exception {
        List<String> due = new ArrayList<>();
        Matcher m = Pattern.compile("println\\((.*)\\); *// (-?\\w+): ").matcher(source);
        while (m.find()) due.add(m.group(1) + " is " + m.group(2));
        say(due.size() >= 20, "the example shows " + due.size() + " answers only");
        say(source.split("println").length - 1 == due.size(), "a line of the example does not say what it prints");
        String[] printed = printedBy(source).split("\\R");
        say(printed.length == due.size(), "the example prints " + printed.length + " answers, and says " + due.size());
        for (int i = 0; i < Math.min(printed.length, due.size()); i++) {
            say(due.get(i).endsWith(" is " + printed[i]), due.get(i) + ", it says, but it printed " + printed[i]);
        }
    }

    private static String printedBy(String source) throws Exception {
        Path folder = Files.createTempDirectory("readme");
        Path file = folder.resolve("Example.java");
        PrintStream out = System.out;
        ByteArrayOutputStream printed = new ByteArrayOutputStream();
        try (URLClassLoader loader = new URLClassLoader(new URL[] {folder.toUri().toURL()}, ReadmeTest.class.getClassLoader())) {
            Files.writeString(file, source);
            JavaCompiler javac = ToolProvider.getSystemJavaCompiler();
            int end = javac.run(null, null, null, "-cp", System.getProperty("java.class.path"), "-d", folder.toString(), file.toString());
            say(end == 0, "the example does not compile");
            if (end != 0) return "";
            System.setOut(new PrintStream(printed, true));
            loader.loadClass("Example").getMethod("main", String[].class).invoke(null, (Object) new String[0]);
        } finally {
            System.setOut(out);
            remove(folder);
        }
        return printed.toString();
    }

    private static void remove(Path folder) throws IOException {
        try (Stream<Path> files = Files.list(folder)) {
            for (Path file : files.toList()) Files.delete(file);
        }
        Files.delete(folder);
    }

    private static void calls(String page) {
        for (Method m : FuseTreaty.class.getDeclaredMethods()) {
            if (!Modifier.isPublic(m.getModifiers())) continue;
            Matcher told = Pattern.compile("`" + m.getName() + "\\(([^)]*)\\)`").matcher(page);
            boolean found = told.find();
            say(found, "the call " + m.getName() + " is not listed");
            int names = !found || told.group(1).isEmpty() ? 0 : told.group(1).split(",").length;
            say(!found || names == m.getParameterCount(), "the call " + m.getName() + " takes " + m.getParameterCount());
        }
    }

    private static void classes(String page) {
        for (Class<?> c : FuseTreaty.class.getDeclaredClasses()) {
            say(page.contains("`" + c.getSimpleName() + "`"), "the class " + c.getSimpleName() + " is not told");
        }
    }

    private static void tests(String page) throws IOException {
        say(Arrays.asList(block(page, "sh").split("\n")).contains("javac -d build src/main/java/FuseTreaty.java Example.java"
            + " && java -cp build Example"), "how the example is run is not told");
        say(page.contains("\n.ci/run\n") && Files.isExecutable(Path.of(".ci/run")), "how the tests are run is not told");
        try (Stream<Path> files = Files.list(Path.of("src/test/java"))) {
            for (Path file : files.toList()) {
                String name = file.getFileName().toString().replace(".java", "");
                if (name.endsWith("Test")) say(page.contains("- `" + name + "`: "), "the test " + name + " is not told");
            }
        }
    }
}
