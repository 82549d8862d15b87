import java.io.File;
import java.io.IOException;
import java.net.URL;
import java.net.URLClassLoader;
import java.nio.file.Files;
import java.nio.file.Path;
import java.util.ArrayList;
import java.util.Arrays;
import java.util.List;
import java.util.Set;
import java.util.TreeSet;
import java.util.regex.Matcher;
import java.util.regex.Pattern;
import javax.tools.JavaCompiler;
import javax.tools.ToolProvider;

/** README.md: its example is compiled and run, and its answers are compared with those that stand there. */
public final class ReadmeTest {
    /** A call in a line of its own, with its answer behind it. */
    private static final Pattern ASKED =
        Pattern.compile("(x\\.(\\w+)\\(.*\\)); +// (-?\\d+|Long\\.MIN_VALUE)(:.*)?");

    private final StringBuilder source = new StringBuilder("public final class Example {\n")
        .append("public static void run(java.util.List<Long> got) {\n");
    private final List<String> calls = new ArrayList<>();
    private final List<Long> due = new ArrayList<>();
    private final Set<String> names = new TreeSet<>();

    public static void main(String[] args) throws Exception {
        String readme = Files.readString(Path.of("README.md"));
        Matcher block = Pattern.compile("(?s)```java\n(.*?)```").matcher(readme);
        Checks.holds("README.md has one example", block.results().count() == 1);
        block.reset();
        if (block.find()) {
            new ReadmeTest().example(block.group(1));
        }
        everyTestIsTold(readme);
        Checks.finish("ReadmeTest");
    }

    private void example(String example) throws Exception {
        for (String line : example.split("\n")) {
            take(line);
        }
        source.append("}\n}\n");
        Checks.holds("the example has each call: " + names, names.equals(new TreeSet<>(Arrays.asList(Calls.NAMES))));
        List<Long> got = answers();
        Checks.due("answers of the example", got.size(), due.size());
        for (int k = 0; k < got.size() && k < due.size(); k++) {
            Checks.due("README.md: " + calls.get(k), got.get(k), due.get(k));
        }
    }

    private void take(String line) {
        Matcher asked = ASKED.matcher(line);
        if (asked.matches()) {
            calls.add(asked.group(1));
            names.add(asked.group(2));
            String answer = asked.group(3);
            due.add(answer.startsWith("L") ? Long.valueOf(Long.MIN_VALUE) : Long.valueOf(answer));
            source.append("got.add((long) ").append(asked.group(1)).append(");\n");
        } else {
            Checks.holds("an answer stands behind: " + line, !line.startsWith("x."));
            source.append(line).append('\n');
        }
    }

    private List<Long> answers() throws Exception {
        List<Long> got = new ArrayList<>();
        Path folder = Files.createTempDirectory("readme");
        try {
            Path file = Files.writeString(folder.resolve("Example.java"), source);
            JavaCompiler compiler = ToolProvider.getSystemJavaCompiler();
            String path = System.getProperty("java.class.path");
            int code = compiler.run(null, null, null, "-cp", path, "-d", folder.toString(), file.toString());
            Checks.due("compiling the example", code, 0);
            if (code == 0) {
                run(folder, got);
            }
        } finally {
            clear(folder);
        }
        return got;
    }

    private static void run(Path folder, List<Long> got) throws Exception {
        URL[] places = {folder.toUri().toURL()};
        try (URLClassLoader loader = new URLClassLoader(places)) {
            loader.loadClass("Example").getMethod("run", List.class).invoke(null, got);
        }
    }

    private static void clear(Path folder) throws IOException {
        File[] files = folder.toFile().listFiles();
        for (File file : files == null ? new File[0] : files) {
            Files.delete(file.toPath());
        }
        Files.delete(folder);
    }

    private static void everyTestIsTold(String readme) {
        Set<String> told = new TreeSet<>();
        Matcher name = Pattern.compile("`(\\w+Test)`").matcher(readme);
        while (name.find()) {
            told.add(name.group(1));
        }
        Set<String> there = new TreeSet<>();
        String[] files = new File("src/test/java").list();
        for (String file : files == null ? new String[0] : files) {
            if (file.endsWith("Test.java")) {
                there.add(file.replace(".java", ""));
            }
        }
        Checks.holds("README.md tells of " + told + ", there are " + there, told.equals(there));
    }
}
