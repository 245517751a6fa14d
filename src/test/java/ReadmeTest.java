import java.io.ByteArrayOutputStream;
import java.io.IOException;
import java.io.PrintStream;
import java.net.URL;
import java.net.URLClassLoader;
import java.nio.charset.StandardCharsets;
import java.nio.file.Files;
import java.nio.file.Path;
import java.util.ArrayList;
import java.util.Comparator;
import java.util.List;
import java.util.regex.Matcher;
import java.util.regex.Pattern;
import java.util.stream.Stream;
import javax.tools.ToolProvider;

/** README.md: its example prints what stands behind its lines, and it tells of every test that there is. */
final class ReadmeTest {
    private static final Pattern PRINTED = Pattern.compile("System\\.out\\.println\\(.*\\); +// (-?\\w+)(: .*)?");
    private static final Pattern TEST = Pattern.compile("`(\\w+Test)`");
    private static int wrong;

    private ReadmeTest() {
    }

    public static void main(String[] args) throws Exception {
        String readme = Files.readString(Path.of("README.md"));
        example(readme);
        tests(readme);
        if (wrong > 0) {
            System.exit(1);
        }
    }

    private static void fault(String text) {
        wrong++;
        System.out.println(text);
    }

    private static void example(String readme) throws Exception {
        int first = readme.indexOf("```java\n");
        int last = readme.indexOf("```\n", first + 1);
        if (first < 0 || last < 0) {
            fault("README.md has no example");
            return;
        }
        String source = readme.substring(first + "```java\n".length(), last);
        List<String> due = new ArrayList<>();
        for (String line : source.split("\n")) {
            if (line.contains("System.out.println(")) {
                Matcher m = PRINTED.matcher(line.strip());
                due.add(m.matches() ? m.group(1) : "nothing is told: " + line.strip());
            }
        }
        List<String> got = printed(source);
        if (due.isEmpty() || !got.equals(due)) {
            fault("the example prints " + got + ", told is " + due);
        }
    }

    private static List<String> printed(String source) throws Exception {
        Path room = Files.createTempDirectory("readme");
        try {
            Path file = room.resolve("Example.java");
            Files.writeString(file, source);
            int failed = ToolProvider.getSystemJavaCompiler().run(null, null, null, "-cp",
                    System.getProperty("java.class.path"), "-d", room.toString(), file.toString());
            return failed == 0 ? run(room) : List.of("it isn't built");
        } finally {
            remove(room);
        }
    }

    private static List<String> run(Path room) throws Exception {
        PrintStream before = System.out;
        ByteArrayOutputStream bytes = new ByteArrayOutputStream();
        System.setOut(new PrintStream(bytes, true, StandardCharsets.UTF_8));
        try (URLClassLoader loader = new URLClassLoader(new URL[] {room.toUri().toURL()})) {
            loader.loadClass("Example").getMethod("main", String[].class).invoke(null, (Object) new String[0]);
        } finally {
            System.setOut(before);
        }
        return bytes.toString(StandardCharsets.UTF_8).lines().toList();
    }

    private static void remove(Path room) throws IOException {
        try (Stream<Path> files = Files.walk(room)) {
            for (Path file : files.sorted(Comparator.reverseOrder()).toList()) {
                Files.delete(file);
            }
        }
    }

    private static void tests(String readme) throws IOException {
        List<String> told = TEST.matcher(readme).results().map(m -> m.group(1)).sorted().toList();
        List<String> there;
        try (Stream<Path> files = Files.list(Path.of("src/test/java"))) {
            there = files.map(f -> f.getFileName().toString()).filter(f -> f.endsWith("Test.java"))
                    .map(f -> f.substring(0, f.length() - ".java".length())).sorted().toList();
        }
        if (!told.equals(there)) {
            fault("README.md tells of " + told + ", there are " + there);
        }
    }
}
